section
-- ===== PART A: goes FIRST, ahead of the names: the tables' words, and 'selects' of the private methods out of them =====
/-- a private method of a class that the tables say can be made, by its rows of tables_1 -/
def lw_okq (q : MethodName × Nat) : Prop := (q.1.cls ≠ "java/lang/invoke/MethodHandle" ∧ q.1.cls ≠ "java/lang/invoke/VarHandle") ∧ Cond.instantiable q.1.cls q.2 ∈ tables_1 ∧ Cond.privateMethod q.1 ∈ tables_1 ∧ Cond.instanceMethod q.1 ∈ tables_1
theorem lw_p0 : lw_okq (⟨"HammockDeck$Berths", "takeAllDown", "()V"⟩, 5) := ⟨⟨by decide +kernel, by decide +kernel⟩, List.mem_of_getElem? (i := 62) (by decide +kernel), List.mem_of_getElem? (i := 82) (by decide +kernel), List.mem_of_getElem? (i := 83) (by decide +kernel)⟩
theorem lw_p1 : lw_okq (⟨"HammockDeck", "rowAt", "(I)LHammockDeck$Row;"⟩, 12) := ⟨⟨by decide +kernel, by decide +kernel⟩, List.mem_of_getElem? (i := 12) (by decide +kernel), List.mem_of_getElem? (i := 182) (by decide +kernel), List.mem_of_getElem? (i := 183) (by decide +kernel)⟩
theorem lw_p2 : lw_okq (⟨"HammockDeck", "renewed", "(LHammockDeck$Row;III)I"⟩, 12) := ⟨⟨by decide +kernel, by decide +kernel⟩, List.mem_of_getElem? (i := 12) (by decide +kernel), List.mem_of_getElem? (i := 186) (by decide +kernel), List.mem_of_getElem? (i := 187) (by decide +kernel)⟩
theorem lw_p3 : lw_okq (⟨"HammockDeck", "found", "(I)I"⟩, 12) := ⟨⟨by decide +kernel, by decide +kernel⟩, List.mem_of_getElem? (i := 12) (by decide +kernel), List.mem_of_getElem? (i := 190) (by decide +kernel), List.mem_of_getElem? (i := 191) (by decide +kernel)⟩
theorem lw_p4 : lw_okq (⟨"HammockDeck", "tell", "(I)V"⟩, 12) := ⟨⟨by decide +kernel, by decide +kernel⟩, List.mem_of_getElem? (i := 12) (by decide +kernel), List.mem_of_getElem? (i := 222) (by decide +kernel), List.mem_of_getElem? (i := 223) (by decide +kernel)⟩
theorem lw_p5 : lw_okq (⟨"HammockDeck", "textAt", "(I)LHammockDeck$Row;"⟩, 12) := ⟨⟨by decide +kernel, by decide +kernel⟩, List.mem_of_getElem? (i := 12) (by decide +kernel), List.mem_of_getElem? (i := 246) (by decide +kernel), List.mem_of_getElem? (i := 247) (by decide +kernel)⟩
theorem lw_p6 : lw_okq (⟨"HammockDeck$Reader", "skipBlanks", "()V"⟩, 3) := ⟨⟨by decide +kernel, by decide +kernel⟩, List.mem_of_getElem? (i := 250) (by decide +kernel), List.mem_of_getElem? (i := 270) (by decide +kernel), List.mem_of_getElem? (i := 271) (by decide +kernel)⟩
theorem lw_p7 : lw_okq (⟨"HammockDeck$Reader", "readHooks", "()Z"⟩, 3) := ⟨⟨by decide +kernel, by decide +kernel⟩, List.mem_of_getElem? (i := 250) (by decide +kernel), List.mem_of_getElem? (i := 275) (by decide +kernel), List.mem_of_getElem? (i := 276) (by decide +kernel)⟩
theorem lw_p8 : lw_okq (⟨"HammockDeck$Reader", "letterIn", "([C)I"⟩, 3) := ⟨⟨by decide +kernel, by decide +kernel⟩, List.mem_of_getElem? (i := 250) (by decide +kernel), List.mem_of_getElem? (i := 282) (by decide +kernel), List.mem_of_getElem? (i := 283) (by decide +kernel)⟩
theorem lw_p9 : lw_okq (⟨"HammockDeck$Reader", "readMan", "()Z"⟩, 3) := ⟨⟨by decide +kernel, by decide +kernel⟩, List.mem_of_getElem? (i := 250) (by decide +kernel), List.mem_of_getElem? (i := 295) (by decide +kernel), List.mem_of_getElem? (i := 296) (by decide +kernel)⟩
theorem lw_p10 : lw_okq (⟨"HammockDeck$Reader", "readFigure", "(II)I"⟩, 3) := ⟨⟨by decide +kernel, by decide +kernel⟩, List.mem_of_getElem? (i := 250) (by decide +kernel), List.mem_of_getElem? (i := 301) (by decide +kernel), List.mem_of_getElem? (i := 302) (by decide +kernel)⟩
theorem lw_p11 : lw_okq (⟨"HammockDeck", "sleptThrough", "(I)I"⟩, 12) := ⟨⟨by decide +kernel, by decide +kernel⟩, List.mem_of_getElem? (i := 12) (by decide +kernel), List.mem_of_getElem? (i := 373) (by decide +kernel), List.mem_of_getElem? (i := 374) (by decide +kernel)⟩
theorem lw_p12 : lw_okq (⟨"HammockDeck$Berths", "wakingsFrom", "(III)I"⟩, 5) := ⟨⟨by decide +kernel, by decide +kernel⟩, List.mem_of_getElem? (i := 62) (by decide +kernel), List.mem_of_getElem? (i := 395) (by decide +kernel), List.mem_of_getElem? (i := 396) (by decide +kernel)⟩
theorem lw_p13 : lw_okq (⟨"HammockDeck", "isKeptPlace", "(I)Z"⟩, 12) := ⟨⟨by decide +kernel, by decide +kernel⟩, List.mem_of_getElem? (i := 12) (by decide +kernel), List.mem_of_getElem? (i := 427) (by decide +kernel), List.mem_of_getElem? (i := 428) (by decide +kernel)⟩
theorem lw_p14 : lw_okq (⟨"HammockDeck$Berths", "bitOfWhoIsInAt", "(II)I"⟩, 5) := ⟨⟨by decide +kernel, by decide +kernel⟩, List.mem_of_getElem? (i := 62) (by decide +kernel), List.mem_of_getElem? (i := 453) (by decide +kernel), List.mem_of_getElem? (i := 454) (by decide +kernel)⟩
theorem lw_p15 : lw_okq (⟨"HammockDeck", "wakingsWithout", "(III)I"⟩, 12) := ⟨⟨by decide +kernel, by decide +kernel⟩, List.mem_of_getElem? (i := 12) (by decide +kernel), List.mem_of_getElem? (i := 483) (by decide +kernel), List.mem_of_getElem? (i := 484) (by decide +kernel)⟩
def lw_privs_1 : List (MethodName × Nat) := [(⟨"HammockDeck$Berths", "takeAllDown", "()V"⟩, 5), (⟨"HammockDeck", "rowAt", "(I)LHammockDeck$Row;"⟩, 12), (⟨"HammockDeck", "renewed", "(LHammockDeck$Row;III)I"⟩, 12), (⟨"HammockDeck", "found", "(I)I"⟩, 12), (⟨"HammockDeck", "tell", "(I)V"⟩, 12), (⟨"HammockDeck", "textAt", "(I)LHammockDeck$Row;"⟩, 12), (⟨"HammockDeck$Reader", "skipBlanks", "()V"⟩, 3), (⟨"HammockDeck$Reader", "readHooks", "()Z"⟩, 3), (⟨"HammockDeck$Reader", "letterIn", "([C)I"⟩, 3), (⟨"HammockDeck$Reader", "readMan", "()Z"⟩, 3), (⟨"HammockDeck$Reader", "readFigure", "(II)I"⟩, 3), (⟨"HammockDeck", "sleptThrough", "(I)I"⟩, 12), (⟨"HammockDeck$Berths", "wakingsFrom", "(III)I"⟩, 5), (⟨"HammockDeck", "isKeptPlace", "(I)Z"⟩, 12), (⟨"HammockDeck$Berths", "bitOfWhoIsInAt", "(II)I"⟩, 5), (⟨"HammockDeck", "wakingsWithout", "(III)I"⟩, 12)]
theorem lw_r1 : ∀ q ∈ lw_privs_1, lw_okq q := List.forall_mem_cons.mpr ⟨lw_p0, List.forall_mem_cons.mpr ⟨lw_p1, List.forall_mem_cons.mpr ⟨lw_p2, List.forall_mem_cons.mpr ⟨lw_p3, List.forall_mem_cons.mpr ⟨lw_p4, List.forall_mem_cons.mpr ⟨lw_p5, List.forall_mem_cons.mpr ⟨lw_p6, List.forall_mem_cons.mpr ⟨lw_p7, List.forall_mem_cons.mpr ⟨lw_p8, List.forall_mem_cons.mpr ⟨lw_p9, List.forall_mem_cons.mpr ⟨lw_p10, List.forall_mem_cons.mpr ⟨lw_p11, List.forall_mem_cons.mpr ⟨lw_p12, List.forall_mem_cons.mpr ⟨lw_p13, List.forall_mem_cons.mpr ⟨lw_p14, List.forall_mem_cons.mpr ⟨lw_p15, fun _ h => absurd h List.not_mem_nil⟩⟩⟩⟩⟩⟩⟩⟩⟩⟩⟩⟩⟩⟩⟩⟩
theorem lw_p16 : lw_okq (⟨"HammockDeck", "leastPlan", "(IILHammockDeck$Row;)I"⟩, 12) := ⟨⟨by decide +kernel, by decide +kernel⟩, List.mem_of_getElem? (i := 12) (by decide +kernel), List.mem_of_getElem? (i := 495) (by decide +kernel), List.mem_of_getElem? (i := 496) (by decide +kernel)⟩
theorem lw_p17 : lw_okq (⟨"HammockDeck", "beginPlans", "()V"⟩, 12) := ⟨⟨by decide +kernel, by decide +kernel⟩, List.mem_of_getElem? (i := 12) (by decide +kernel), List.mem_of_getElem? (i := 500) (by decide +kernel), List.mem_of_getElem? (i := 501) (by decide +kernel)⟩
theorem lw_p18 : lw_okq (⟨"HammockDeck", "weighed", "(II)I"⟩, 12) := ⟨⟨by decide +kernel, by decide +kernel⟩, List.mem_of_getElem? (i := 12) (by decide +kernel), List.mem_of_getElem? (i := 509) (by decide +kernel), List.mem_of_getElem? (i := 510) (by decide +kernel)⟩
theorem lw_p19 : lw_okq (⟨"HammockDeck$Berths", "moveOn", "(I)Z"⟩, 5) := ⟨⟨by decide +kernel, by decide +kernel⟩, List.mem_of_getElem? (i := 62) (by decide +kernel), List.mem_of_getElem? (i := 521) (by decide +kernel), List.mem_of_getElem? (i := 522) (by decide +kernel)⟩
theorem lw_p20 : lw_okq (⟨"HammockDeck", "firstGladPair", "(I)I"⟩, 12) := ⟨⟨by decide +kernel, by decide +kernel⟩, List.mem_of_getElem? (i := 12) (by decide +kernel), List.mem_of_getElem? (i := 554) (by decide +kernel), List.mem_of_getElem? (i := 555) (by decide +kernel)⟩
theorem lw_p21 : lw_okq (⟨"HammockDeck", "wouldBothGladlyChange", "(III)Z"⟩, 12) := ⟨⟨by decide +kernel, by decide +kernel⟩, List.mem_of_getElem? (i := 12) (by decide +kernel), List.mem_of_getElem? (i := 558) (by decide +kernel), List.mem_of_getElem? (i := 559) (by decide +kernel)⟩
theorem lw_p22 : lw_okq (⟨"HammockDeck$Berths", "hasBulkierNeighbour", "(II)Z"⟩, 5) := ⟨⟨by decide +kernel, by decide +kernel⟩, List.mem_of_getElem? (i := 62) (by decide +kernel), List.mem_of_getElem? (i := 583) (by decide +kernel), List.mem_of_getElem? (i := 584) (by decide +kernel)⟩
theorem lw_p23 : lw_okq (⟨"HammockDeck", "countFitting", "(LHammockDeck$Row;)V"⟩, 12) := ⟨⟨by decide +kernel, by decide +kernel⟩, List.mem_of_getElem? (i := 12) (by decide +kernel), List.mem_of_getElem? (i := 596) (by decide +kernel), List.mem_of_getElem? (i := 597) (by decide +kernel)⟩
theorem lw_p24 : lw_okq (⟨"HammockDeck", "fitsBook", "(LHammockDeck$Row;)Z"⟩, 12) := ⟨⟨by decide +kernel, by decide +kernel⟩, List.mem_of_getElem? (i := 12) (by decide +kernel), List.mem_of_getElem? (i := 600) (by decide +kernel), List.mem_of_getElem? (i := 601) (by decide +kernel)⟩
theorem lw_p25 : lw_okq (⟨"HammockDeck", "fitsBookBy", "(ILHammockDeck$Row;)Z"⟩, 12) := ⟨⟨by decide +kernel, by decide +kernel⟩, List.mem_of_getElem? (i := 12) (by decide +kernel), List.mem_of_getElem? (i := 604) (by decide +kernel), List.mem_of_getElem? (i := 605) (by decide +kernel)⟩
theorem lw_p26 : lw_okq (⟨"HammockDeck", "tellMean", "(JJ)V"⟩, 12) := ⟨⟨by decide +kernel, by decide +kernel⟩, List.mem_of_getElem? (i := 12) (by decide +kernel), List.mem_of_getElem? (i := 612) (by decide +kernel), List.mem_of_getElem? (i := 613) (by decide +kernel)⟩
theorem lw_p27 : lw_okq (⟨"HammockDeck", "counted", "(I)I"⟩, 12) := ⟨⟨by decide +kernel, by decide +kernel⟩, List.mem_of_getElem? (i := 12) (by decide +kernel), List.mem_of_getElem? (i := 649) (by decide +kernel), List.mem_of_getElem? (i := 650) (by decide +kernel)⟩
theorem lw_p28 : lw_okq (⟨"HammockDeck", "howManyKept", "()I"⟩, 12) := ⟨⟨by decide +kernel, by decide +kernel⟩, List.mem_of_getElem? (i := 12) (by decide +kernel), List.mem_of_getElem? (i := 674) (by decide +kernel), List.mem_of_getElem? (i := 675) (by decide +kernel)⟩
def lw_privs_2 : List (MethodName × Nat) := [(⟨"HammockDeck", "leastPlan", "(IILHammockDeck$Row;)I"⟩, 12), (⟨"HammockDeck", "beginPlans", "()V"⟩, 12), (⟨"HammockDeck", "weighed", "(II)I"⟩, 12), (⟨"HammockDeck$Berths", "moveOn", "(I)Z"⟩, 5), (⟨"HammockDeck", "firstGladPair", "(I)I"⟩, 12), (⟨"HammockDeck", "wouldBothGladlyChange", "(III)Z"⟩, 12), (⟨"HammockDeck$Berths", "hasBulkierNeighbour", "(II)Z"⟩, 5), (⟨"HammockDeck", "countFitting", "(LHammockDeck$Row;)V"⟩, 12), (⟨"HammockDeck", "fitsBook", "(LHammockDeck$Row;)Z"⟩, 12), (⟨"HammockDeck", "fitsBookBy", "(ILHammockDeck$Row;)Z"⟩, 12), (⟨"HammockDeck", "tellMean", "(JJ)V"⟩, 12), (⟨"HammockDeck", "counted", "(I)I"⟩, 12), (⟨"HammockDeck", "howManyKept", "()I"⟩, 12)]
theorem lw_r2 : ∀ q ∈ lw_privs_2, lw_okq q := List.forall_mem_cons.mpr ⟨lw_p16, List.forall_mem_cons.mpr ⟨lw_p17, List.forall_mem_cons.mpr ⟨lw_p18, List.forall_mem_cons.mpr ⟨lw_p19, List.forall_mem_cons.mpr ⟨lw_p20, List.forall_mem_cons.mpr ⟨lw_p21, List.forall_mem_cons.mpr ⟨lw_p22, List.forall_mem_cons.mpr ⟨lw_p23, List.forall_mem_cons.mpr ⟨lw_p24, List.forall_mem_cons.mpr ⟨lw_p25, List.forall_mem_cons.mpr ⟨lw_p26, List.forall_mem_cons.mpr ⟨lw_p27, List.forall_mem_cons.mpr ⟨lw_p28, fun _ h => absurd h List.not_mem_nil⟩⟩⟩⟩⟩⟩⟩⟩⟩⟩⟩⟩⟩
def lw_privs : List (MethodName × Nat) := lw_privs_1 ++ (lw_privs_2)
def lw_tbl : List Cond := k2_sels lw_privs ++ tables_1
theorem lw_privs_ok : ∀ q ∈ lw_privs, lw_okq q := by
  show ∀ q ∈ lw_privs_1 ++ (lw_privs_2), lw_okq q
  exact List.forall_mem_append.mpr ⟨lw_r1, lw_r2⟩

/-! the class and method names (printed) -/
def RX0 : String := "HammockDeck$Berths"
def TX0 : u_T := fun k => match k with
  | 0 => ("HammockDeck$Berths", "crew", "LHammockDeck$Crew;", false)
  | 1 => ("HammockDeck$Berths", "hooks", "[I", true)
  | 2 => ("HammockDeck$Berths", "holders", "[I", true)
  | 3 => ("HammockDeck$Berths", "lines", "[I", true)
  | _ => ("HammockDeck$Berths", "tired", "[I", true)
def tyX0 : Nat → FieldType := fun k => match k with
  | 0 => .object "HammockDeck$Crew"
  | 1 => .array .int
  | 2 => .array .int
  | 3 => .array .int
  | _ => .array .int
abbrev wsX00 : List Cond := u_ws RX0 TX0 5
theorem nmX0 : ∀ a, a < 5 → ∀ b, b < 5 → a ≠ b → (TX0 a).2.1 ≠ (TX0 b).2.1 := by decide +kernel
theorem tyX0_ok : ∀ k, k < 5 → parseFieldDescriptor (TX0 k).2.2.1 = some (tyX0 k) := by decide +kernel
abbrev cX0_init : ByteArray := prog_2_method_1_code
def yX0_init : MethodName := ⟨RX0, "<init>", "(LHammockDeck$Crew;)V"⟩
abbrev cX0_begin : ByteArray := prog_2_method_2_code
def yX0_begin : MethodName := ⟨RX0, "begin", "(LHammockDeck$Crew;)V"⟩
abbrev cX0_copyFrom : ByteArray := prog_2_method_3_code
def yX0_copyFrom : MethodName := ⟨RX0, "copyFrom", "(LHammockDeck$Berths;)V"⟩
abbrev cX0_manDetail : ByteArray := prog_2_method_4_code
def yX0_manDetail : MethodName := ⟨RX0, "manDetail", "(II)I"⟩
abbrev cX0_hookDetail : ByteArray := prog_2_method_5_code
def yX0_hookDetail : MethodName := ⟨RX0, "hookDetail", "(II)I"⟩
abbrev cX0_tiredTogether : ByteArray := prog_2_method_6_code
def yX0_tiredTogether : MethodName := ⟨RX0, "tiredTogether", "()I"⟩
abbrev cX0_writeTo : ByteArray := prog_2_method_7_code
def yX0_writeTo : MethodName := ⟨RX0, "writeTo", "([II)V"⟩
abbrev cX0_readFrom : ByteArray := prog_2_method_8_code
def yX0_readFrom : MethodName := ⟨RX0, "readFrom", "([II)V"⟩
abbrev cX0_isFree : ByteArray := prog_2_method_9_code
def yX0_isFree : MethodName := ⟨RX0, "isFree", "(I)Z"⟩
abbrev cX0_hangs : ByteArray := prog_2_method_10_code
def yX0_hangs : MethodName := ⟨RX0, "hangs", "(I)Z"⟩
abbrev cX0_move : ByteArray := prog_2_method_11_code
def yX0_move : MethodName := ⟨RX0, "move", "(II)V"⟩
abbrev cX0_swap : ByteArray := prog_2_method_12_code
def yX0_swap : MethodName := ⟨RX0, "swap", "(II)V"⟩
abbrev cX0_takeAllDown : ByteArray := prog_2_method_13_code
def yX0_takeAllDown : MethodName := ⟨RX0, "takeAllDown", "()V"⟩
abbrev cX0_hangBy : ByteArray := prog_2_method_14_code
def yX0_hangBy : MethodName := ⟨RX0, "hangBy", "(LHammockDeck$Row;)Z"⟩
abbrev cX0_hangByFirstPlan : ByteArray := prog_2_method_15_code
def yX0_hangByFirstPlan : MethodName := ⟨RX0, "hangByFirstPlan", "()V"⟩
abbrev cX0_hangByNextPlan : ByteArray := prog_2_method_16_code
def yX0_hangByNextPlan : MethodName := ⟨RX0, "hangByNextPlan", "()V"⟩
abbrev cX0_moveOn : ByteArray := prog_2_method_17_code
def yX0_moveOn : MethodName := ⟨RX0, "moveOn", "(I)Z"⟩
abbrev cX0_messmatePairs : ByteArray := prog_2_method_18_code
def yX0_messmatePairs : MethodName := ⟨RX0, "messmatePairs", "()I"⟩
abbrev cX0_isIn : ByteArray := prog_2_method_19_code
def yX0_isIn : MethodName := ⟨RX0, "isIn", "(II)Z"⟩
abbrev cX0_howManyIn : ByteArray := prog_2_method_20_code
def yX0_howManyIn : MethodName := ⟨RX0, "howManyIn", "(I)I"⟩
abbrev cX0_bitOfWhoIsInAt : ByteArray := prog_2_method_21_code
def yX0_bitOfWhoIsInAt : MethodName := ⟨RX0, "bitOfWhoIsInAt", "(II)I"⟩
abbrev cX0_neighbourBits : ByteArray := prog_2_method_22_code
def yX0_neighbourBits : MethodName := ⟨RX0, "neighbourBits", "(II)I"⟩
abbrev cX0_wakings : ByteArray := prog_2_method_23_code
def yX0_wakings : MethodName := ⟨RX0, "wakings", "(II)I"⟩
abbrev cX0_wakingsFrom : ByteArray := prog_2_method_24_code
def yX0_wakingsFrom : MethodName := ⟨RX0, "wakingsFrom", "(III)I"⟩
abbrev cX0_allWakings : ByteArray := prog_2_method_25_code
def yX0_allWakings : MethodName := ⟨RX0, "allWakings", "(I)I"⟩
abbrev cX0_mostWakings : ByteArray := prog_2_method_26_code
def yX0_mostWakings : MethodName := ⟨RX0, "mostWakings", "(I)I"⟩
abbrev cX0_tire : ByteArray := prog_2_method_27_code
def yX0_tire : MethodName := ⟨RX0, "tire", "(I)I"⟩
abbrev cX0_inTheWayOf : ByteArray := prog_2_method_28_code
def yX0_inTheWayOf : MethodName := ⟨RX0, "inTheWayOf", "(II)I"⟩
abbrev cX0_firstToGetUp : ByteArray := prog_2_method_29_code
def yX0_firstToGetUp : MethodName := ⟨RX0, "firstToGetUp", "(I)I"⟩
abbrev cX0_hasBulkierNeighbour : ByteArray := prog_2_method_30_code
def yX0_hasBulkierNeighbour : MethodName := ⟨RX0, "hasBulkierNeighbour", "(II)Z"⟩
def RX1 : String := "HammockDeck$Crew"
def TX1 : u_T := fun k => match k with
  | 0 => ("HammockDeck$Crew", "hooks", "I", false)
  | 1 => ("HammockDeck$Crew", "men", "I", false)
  | 2 => ("HammockDeck$Crew", "places", "[I", true)
  | 3 => ("HammockDeck$Crew", "kinds", "[I", true)
  | 4 => ("HammockDeck$Crew", "firstLines", "[I", true)
  | 5 => ("HammockDeck$Crew", "watches", "[I", true)
  | _ => ("HammockDeck$Crew", "messes", "[I", true)
def tyX1 : Nat → FieldType := fun k => match k with
  | 0 => .int
  | 1 => .int
  | 2 => .array .int
  | 3 => .array .int
  | 4 => .array .int
  | 5 => .array .int
  | _ => .array .int
abbrev wsX10 : List Cond := u_ws RX1 TX1 7
theorem nmX1 : ∀ a, a < 7 → ∀ b, b < 7 → a ≠ b → (TX1 a).2.1 ≠ (TX1 b).2.1 := by decide +kernel
theorem tyX1_ok : ∀ k, k < 7 → parseFieldDescriptor (TX1 k).2.2.1 = some (tyX1 k) := by decide +kernel
abbrev cX1_init : ByteArray := prog_3_method_1_code
def yX1_init : MethodName := ⟨RX1, "<init>", "()V"⟩
abbrev cX1_hasHook : ByteArray := prog_3_method_2_code
def yX1_hasHook : MethodName := ⟨RX1, "hasHook", "(I)Z"⟩
abbrev cX1_hasMan : ByteArray := prog_3_method_3_code
def yX1_hasMan : MethodName := ⟨RX1, "hasMan", "(I)Z"⟩
abbrev cX1_addHook : ByteArray := prog_3_method_4_code
def yX1_addHook : MethodName := ⟨RX1, "addHook", "(I)V"⟩
abbrev cX1_addMan : ByteArray := prog_3_method_5_code
def yX1_addMan : MethodName := ⟨RX1, "addMan", "(IIII)V"⟩
abbrev cX1_mostMen : ByteArray := prog_3_method_6_code
def yX1_mostMen : MethodName := ⟨RX1, "mostMen", "()I"⟩
abbrev cX1_planCount : ByteArray := prog_3_method_7_code
def yX1_planCount : MethodName := ⟨RX1, "planCount", "()I"⟩
abbrev cX1_isOf : ByteArray := prog_3_method_8_code
def yX1_isOf : MethodName := ⟨RX1, "isOf", "(II)Z"⟩
abbrev cX1_bitsOf : ByteArray := prog_3_method_9_code
def yX1_bitsOf : MethodName := ⟨RX1, "bitsOf", "(I)I"⟩
abbrev cX1_bulk : ByteArray := prog_3_method_10_code
def yX1_bulk : MethodName := ⟨RX1, "bulk", "(I)I"⟩
abbrev cX1_placeWakes : ByteArray := prog_3_method_11_code
def yX1_placeWakes : MethodName := ⟨RX1, "placeWakes", "(I)I"⟩
def RX2 : String := "HammockDeck$Log"
def TX2 : u_T := fun k => match k with
  | 0 => ("HammockDeck$Log", "moments", "[I", true)
  | _ => ("HammockDeck$Log", "deeds", "I", false)
def tyX2 : Nat → FieldType := fun k => match k with
  | 0 => .array .int
  | _ => .int
abbrev wsX20 : List Cond := u_ws RX2 TX2 2
theorem nmX2 : ∀ a, a < 2 → ∀ b, b < 2 → a ≠ b → (TX2 a).2.1 ≠ (TX2 b).2.1 := by decide +kernel
theorem tyX2_ok : ∀ k, k < 2 → parseFieldDescriptor (TX2 k).2.2.1 = some (tyX2 k) := by decide +kernel
abbrev cX2_init : ByteArray := prog_4_method_1_code
def yX2_init : MethodName := ⟨RX2, "<init>", "(I)V"⟩
abbrev cX2_isMissing : ByteArray := prog_4_method_2_code
def yX2_isMissing : MethodName := ⟨RX2, "isMissing", "()Z"⟩
abbrev cX2_hasRoomFor : ByteArray := prog_4_method_3_code
def yX2_hasRoomFor : MethodName := ⟨RX2, "hasRoomFor", "(I)Z"⟩
abbrev cX2_begin : ByteArray := prog_4_method_4_code
def yX2_begin : MethodName := ⟨RX2, "begin", "(LHammockDeck$Berths;)V"⟩
abbrev cX2_add : ByteArray := prog_4_method_5_code
def yX2_add : MethodName := ⟨RX2, "add", "(LHammockDeck$Berths;)V"⟩
abbrev cX2_discard : ByteArray := prog_4_method_6_code
def yX2_discard : MethodName := ⟨RX2, "discard", "()V"⟩
abbrev cX2_copyFrom : ByteArray := prog_4_method_7_code
def yX2_copyFrom : MethodName := ⟨RX2, "copyFrom", "(LHammockDeck$Log;)V"⟩
abbrev cX2_goBackTo : ByteArray := prog_4_method_8_code
def yX2_goBackTo : MethodName := ⟨RX2, "goBackTo", "(ILHammockDeck$Berths;)V"⟩
def RX3 : String := "HammockDeck$Reader"
def TX3 : u_T := fun k => match k with
  | 0 => ("HammockDeck$Reader", "text", "LHammockDeck$Row;", true)
  | 1 => ("HammockDeck$Reader", "crew", "LHammockDeck$Crew;", true)
  | _ => ("HammockDeck$Reader", "place", "I", false)
def tyX3 : Nat → FieldType := fun k => match k with
  | 0 => .object "HammockDeck$Row"
  | 1 => .object "HammockDeck$Crew"
  | _ => .int
abbrev wsX30 : List Cond := u_ws RX3 TX3 3
theorem nmX3 : ∀ a, a < 3 → ∀ b, b < 3 → a ≠ b → (TX3 a).2.1 ≠ (TX3 b).2.1 := by decide +kernel
theorem tyX3_ok : ∀ k, k < 3 → parseFieldDescriptor (TX3 k).2.2.1 = some (tyX3 k) := by decide +kernel
abbrev cX3_init : ByteArray := prog_5_method_1_code
def yX3_init : MethodName := ⟨RX3, "<init>", "(LHammockDeck$Row;LHammockDeck$Crew;)V"⟩
abbrev cX3_read : ByteArray := prog_5_method_2_code
def yX3_read : MethodName := ⟨RX3, "read", "()I"⟩
abbrev cX3_skipBlanks : ByteArray := prog_5_method_3_code
def yX3_skipBlanks : MethodName := ⟨RX3, "skipBlanks", "()V"⟩
abbrev cX3_readHooks : ByteArray := prog_5_method_4_code
def yX3_readHooks : MethodName := ⟨RX3, "readHooks", "()Z"⟩
abbrev cX3_readMan : ByteArray := prog_5_method_5_code
def yX3_readMan : MethodName := ⟨RX3, "readMan", "()Z"⟩
abbrev cX3_letterIn : ByteArray := prog_5_method_6_code
def yX3_letterIn : MethodName := ⟨RX3, "letterIn", "([C)I"⟩
abbrev cX3_readFigure : ByteArray := prog_5_method_7_code
def yX3_readFigure : MethodName := ⟨RX3, "readFigure", "(II)I"⟩
def RX4 : String := "HammockDeck$Row"
def TX4 : u_T := fun k => match k with
  | 0 => ("HammockDeck$Row", "values", "[I", true)
  | _ => ("HammockDeck$Row", "size", "I", false)
def tyX4 : Nat → FieldType := fun k => match k with
  | 0 => .array .int
  | _ => .int
abbrev wsX40 : List Cond := u_ws RX4 TX4 2
theorem nmX4 : ∀ a, a < 2 → ∀ b, b < 2 → a ≠ b → (TX4 a).2.1 ≠ (TX4 b).2.1 := by decide +kernel
theorem tyX4_ok : ∀ k, k < 2 → parseFieldDescriptor (TX4 k).2.2.1 = some (tyX4 k) := by decide +kernel
abbrev cX4_init : ByteArray := prog_6_method_1_code
def yX4_init : MethodName := ⟨RX4, "<init>", "()V"⟩
abbrev cX4_isMissing : ByteArray := prog_6_method_2_code
def yX4_isMissing : MethodName := ⟨RX4, "isMissing", "()Z"⟩
abbrev cX4_has : ByteArray := prog_6_method_3_code
def yX4_has : MethodName := ⟨RX4, "has", "(I)Z"⟩
abbrev cX4_get : ByteArray := prog_6_method_5_code
def yX4_get : MethodName := ⟨RX4, "get", "(I)I"⟩
abbrev cX4_set : ByteArray := prog_6_method_6_code
def yX4_set : MethodName := ⟨RX4, "set", "(II)V"⟩
abbrev cX4_renew : ByteArray := prog_6_method_7_code
def yX4_renew : MethodName := ⟨RX4, "renew", "(II)V"⟩
abbrev cX4_discard : ByteArray := prog_6_method_8_code
def yX4_discard : MethodName := ⟨RX4, "discard", "()V"⟩
abbrev cX4_digestedOnto : ByteArray := prog_6_method_11_code
def yX4_digestedOnto : MethodName := ⟨RX4, "digestedOnto", "(J)J"⟩
def RX5 : String := "HammockDeck"
def TX5 : u_T := fun k => match k with
  | 0 => ("HammockDeck", "rows", "[LHammockDeck$Row;", true)
  | 1 => ("HammockDeck", "texts", "[LHammockDeck$Row;", true)
  | 2 => ("HammockDeck", "crew", "LHammockDeck$Crew;", false)
  | 3 => ("HammockDeck", "now", "LHammockDeck$Berths;", true)
  | 4 => ("HammockDeck", "aside", "LHammockDeck$Berths;", true)
  | 5 => ("HammockDeck", "log", "LHammockDeck$Log;", true)
  | 6 => ("HammockDeck", "kept", "[LHammockDeck$Log;", true)
  | 7 => ("HammockDeck", "told", "I", false)
  | 8 => ("HammockDeck", "upperTold", "J", false)
  | 9 => ("HammockDeck", "lowerTold", "J", false)
  | 10 => ("HammockDeck", "latestFinding", "I", false)
  | _ => ("HammockDeck", "findingCounts", "[I", true)
def tyX5 : Nat → FieldType := fun k => match k with
  | 0 => .array (.object "HammockDeck$Row")
  | 1 => .array (.object "HammockDeck$Row")
  | 2 => .object "HammockDeck$Crew"
  | 3 => .object "HammockDeck$Berths"
  | 4 => .object "HammockDeck$Berths"
  | 5 => .object "HammockDeck$Log"
  | 6 => .array (.object "HammockDeck$Log")
  | 7 => .int
  | 8 => .long
  | 9 => .long
  | 10 => .int
  | _ => .array .int
abbrev wsX50 : List Cond := u_ws RX5 TX5 12
theorem nmX5 : ∀ a, a < 12 → ∀ b, b < 12 → a ≠ b → (TX5 a).2.1 ≠ (TX5 b).2.1 := by decide +kernel
theorem tyX5_ok : ∀ k, k < 12 → parseFieldDescriptor (TX5 k).2.2.1 = some (tyX5 k) := by decide +kernel
abbrev cX5_init : ByteArray := prog_1_method_1_code
def yX5_init : MethodName := ⟨RX5, "<init>", "()V"⟩
abbrev cX5_row : ByteArray := prog_1_method_2_code
def yX5_row : MethodName := ⟨RX5, "row", "(II)I"⟩
abbrev cX5_lay : ByteArray := prog_1_method_3_code
def yX5_lay : MethodName := ⟨RX5, "lay", "(III)I"⟩
abbrev cX5_at : ByteArray := prog_1_method_4_code
def yX5_at : MethodName := ⟨RX5, "at", "(II)I"⟩
abbrev cX5_tear : ByteArray := prog_1_method_5_code
def yX5_tear : MethodName := ⟨RX5, "tear", "(I)I"⟩
abbrev cX5_text : ByteArray := prog_1_method_8_code
def yX5_text : MethodName := ⟨RX5, "text", "(II)I"⟩
abbrev cX5_put : ByteArray := prog_1_method_9_code
def yX5_put : MethodName := ⟨RX5, "put", "(III)I"⟩
abbrev cX5_fault : ByteArray := prog_1_method_10_code
def yX5_fault : MethodName := ⟨RX5, "fault", "(I)I"⟩
abbrev cX5_deck : ByteArray := prog_1_method_11_code
def yX5_deck : MethodName := ⟨RX5, "deck", "(I)I"⟩
abbrev cX5_man : ByteArray := prog_1_method_12_code
def yX5_man : MethodName := ⟨RX5, "man", "(II)I"⟩
abbrev cX5_hook : ByteArray := prog_1_method_13_code
def yX5_hook : MethodName := ⟨RX5, "hook", "(II)I"⟩
abbrev cX5_hang : ByteArray := prog_1_method_15_code
def yX5_hang : MethodName := ⟨RX5, "hang", "(II)I"⟩
abbrev cX5_down : ByteArray := prog_1_method_16_code
def yX5_down : MethodName := ⟨RX5, "down", "(I)I"⟩
abbrev cX5_change : ByteArray := prog_1_method_17_code
def yX5_change : MethodName := ⟨RX5, "change", "(II)I"⟩
abbrev cX5_line : ByteArray := prog_1_method_18_code
def yX5_line : MethodName := ⟨RX5, "line", "(II)I"⟩
abbrev cX5_night : ByteArray := prog_1_method_19_code
def yX5_night : MethodName := ⟨RX5, "night", "(I)I"⟩
abbrev cX5_undo : ByteArray := prog_1_method_20_code
def yX5_undo : MethodName := ⟨RX5, "undo", "(I)I"⟩
abbrev cX5_keep : ByteArray := prog_1_method_21_code
def yX5_keep : MethodName := ⟨RX5, "keep", "(I)I"⟩
abbrev cX5_on : ByteArray := prog_1_method_22_code
def yX5_on : MethodName := ⟨RX5, "on", "(I)I"⟩
abbrev cX5_neighbours : ByteArray := prog_1_method_23_code
def yX5_neighbours : MethodName := ⟨RX5, "neighbours", "(II)I"⟩
abbrev cX5_woken : ByteArray := prog_1_method_24_code
def yX5_woken : MethodName := ⟨RX5, "woken", "(II)I"⟩
abbrev cX5_all : ByteArray := prog_1_method_25_code
def yX5_all : MethodName := ⟨RX5, "all", "(I)I"⟩
abbrev cX5_worst : ByteArray := prog_1_method_26_code
def yX5_worst : MethodName := ⟨RX5, "worst", "(I)I"⟩
abbrev cX5_by : ByteArray := prog_1_method_27_code
def yX5_by : MethodName := ⟨RX5, "by", "(II)I"⟩
abbrev cX5_best : ByteArray := prog_1_method_28_code
def yX5_best : MethodName := ⟨RX5, "best", "(II)I"⟩
abbrev cX5_fair : ByteArray := prog_1_method_29_code
def yX5_fair : MethodName := ⟨RX5, "fair", "(II)I"⟩
abbrev cX5_mixed : ByteArray := prog_1_method_30_code
def yX5_mixed : MethodName := ⟨RX5, "mixed", "(I)I"⟩
abbrev cX5_judge : ByteArray := prog_1_method_31_code
def yX5_judge : MethodName := ⟨RX5, "judge", "(II)I"⟩
abbrev cX5_gain : ByteArray := prog_1_method_32_code
def yX5_gain : MethodName := ⟨RX5, "gain", "(III)I"⟩
abbrev cX5_calm : ByteArray := prog_1_method_33_code
def yX5_calm : MethodName := ⟨RX5, "calm", "(I)I"⟩
abbrev cX5_mates : ByteArray := prog_1_method_34_code
def yX5_mates : MethodName := ⟨RX5, "mates", "()I"⟩
abbrev cX5_cut : ByteArray := prog_1_method_35_code
def yX5_cut : MethodName := ⟨RX5, "cut", "(II)I"⟩
abbrev cX5_up : ByteArray := prog_1_method_36_code
def yX5_up : MethodName := ⟨RX5, "up", "(II)I"⟩
abbrev cX5_fits : ByteArray := prog_1_method_37_code
def yX5_fits : MethodName := ⟨RX5, "fits", "(I)I"⟩
abbrev cX5_mid : ByteArray := prog_1_method_38_code
def yX5_mid : MethodName := ⟨RX5, "mid", "(I)I"⟩
abbrev cX5_lots : ByteArray := prog_1_method_39_code
def yX5_lots : MethodName := ⟨RX5, "lots", "(II)I"⟩
abbrev cX5_asked : ByteArray := prog_1_method_40_code
def yX5_asked : MethodName := ⟨RX5, "asked", "()I"⟩
abbrev cX5_upper : ByteArray := prog_1_method_41_code
def yX5_upper : MethodName := ⟨RX5, "upper", "()J"⟩
abbrev cX5_lower : ByteArray := prog_1_method_42_code
def yX5_lower : MethodName := ⟨RX5, "lower", "()J"⟩
abbrev cX5_count : ByteArray := prog_1_method_43_code
def yX5_count : MethodName := ⟨RX5, "count", "(I)I"⟩
abbrev cX5_digest : ByteArray := prog_1_method_46_code
def yX5_digest : MethodName := ⟨RX5, "digest", "()J"⟩
abbrev cX5_rowAt : ByteArray := prog_1_method_47_code
def yX5_rowAt : MethodName := ⟨RX5, "rowAt", "(I)LHammockDeck$Row;"⟩
abbrev cX5_textAt : ByteArray := prog_1_method_48_code
def yX5_textAt : MethodName := ⟨RX5, "textAt", "(I)LHammockDeck$Row;"⟩
abbrev cX5_isWhen : ByteArray := prog_1_method_49_code
def yX5_isWhen : MethodName := ⟨RX5, "isWhen", "(I)Z"⟩
abbrev cX5_isKeptPlace : ByteArray := prog_1_method_50_code
def yX5_isKeptPlace : MethodName := ⟨RX5, "isKeptPlace", "(I)Z"⟩
abbrev cX5_found : ByteArray := prog_1_method_51_code
def yX5_found : MethodName := ⟨RX5, "found", "(I)I"⟩
abbrev cX5_tell : ByteArray := prog_1_method_52_code
def yX5_tell : MethodName := ⟨RX5, "tell", "(I)V"⟩
abbrev cX5_tellMean : ByteArray := prog_1_method_53_code
def yX5_tellMean : MethodName := ⟨RX5, "tellMean", "(JJ)V"⟩
abbrev cX5_commonDivisor : ByteArray := prog_1_method_54_code
def yX5_commonDivisor : MethodName := ⟨RX5, "commonDivisor", "(JJ)J"⟩
abbrev cX5_renewed : ByteArray := prog_1_method_55_code
def yX5_renewed : MethodName := ⟨RX5, "renewed", "(LHammockDeck$Row;III)I"⟩
abbrev cX5_sleptThrough : ByteArray := prog_1_method_56_code
def yX5_sleptThrough : MethodName := ⟨RX5, "sleptThrough", "(I)I"⟩
abbrev cX5_wakingsWithout : ByteArray := prog_1_method_57_code
def yX5_wakingsWithout : MethodName := ⟨RX5, "wakingsWithout", "(III)I"⟩
abbrev cX5_beginPlans : ByteArray := prog_1_method_58_code
def yX5_beginPlans : MethodName := ⟨RX5, "beginPlans", "()V"⟩
abbrev cX5_leastPlan : ByteArray := prog_1_method_59_code
def yX5_leastPlan : MethodName := ⟨RX5, "leastPlan", "(IILHammockDeck$Row;)I"⟩
abbrev cX5_weighed : ByteArray := prog_1_method_60_code
def yX5_weighed : MethodName := ⟨RX5, "weighed", "(II)I"⟩
abbrev cX5_firstGladPair : ByteArray := prog_1_method_61_code
def yX5_firstGladPair : MethodName := ⟨RX5, "firstGladPair", "(I)I"⟩
abbrev cX5_wouldBothGladlyChange : ByteArray := prog_1_method_62_code
def yX5_wouldBothGladlyChange : MethodName := ⟨RX5, "wouldBothGladlyChange", "(III)Z"⟩
abbrev cX5_countFitting : ByteArray := prog_1_method_63_code
def yX5_countFitting : MethodName := ⟨RX5, "countFitting", "(LHammockDeck$Row;)V"⟩
abbrev cX5_fitsBook : ByteArray := prog_1_method_64_code
def yX5_fitsBook : MethodName := ⟨RX5, "fitsBook", "(LHammockDeck$Row;)Z"⟩
abbrev cX5_fitsBookBy : ByteArray := prog_1_method_65_code
def yX5_fitsBookBy : MethodName := ⟨RX5, "fitsBookBy", "(ILHammockDeck$Row;)Z"⟩
abbrev cX5_counted : ByteArray := prog_1_method_66_code
def yX5_counted : MethodName := ⟨RX5, "counted", "(I)I"⟩
abbrev cX5_howManyThere : ByteArray := prog_1_method_67_code
def yX5_howManyThere : MethodName := ⟨RX5, "howManyThere", "([LHammockDeck$Row;)I"⟩
abbrev cX5_howManyKept : ByteArray := prog_1_method_68_code
def yX5_howManyKept : MethodName := ⟨RX5, "howManyKept", "()I"⟩
def RX6 : String := "HammockDeckModel"
def TX6 : u_T := fun k => match k with
  | _ => ("", "", "", false)
def tyX6 : Nat → FieldType := fun k => match k with
  | _ => .int
abbrev wsX60 : List Cond := u_ws RX6 TX6 0
theorem nmX6 : ∀ a, a < 0 → ∀ b, b < 0 → a ≠ b → (TX6 a).2.1 ≠ (TX6 b).2.1 := by decide +kernel
theorem tyX6_ok : ∀ k, k < 0 → parseFieldDescriptor (TX6 k).2.2.1 = some (tyX6 k) := by decide +kernel
def RJ6 : String := "java/lang/Integer"
def TJ6 : u_T := fun k => match k with
  | _ => ("", "", "", false)
def tyJ6 : Nat → FieldType := fun k => match k with
  | _ => .int
abbrev wsJ60 : List Cond := u_ws RJ6 TJ6 0
theorem nmJ6 : ∀ a, a < 0 → ∀ b, b < 0 → a ≠ b → (TJ6 a).2.1 ≠ (TJ6 b).2.1 := by decide +kernel
theorem tyJ6_ok : ∀ k, k < 0 → parseFieldDescriptor (TJ6 k).2.2.1 = some (tyJ6 k) := by decide +kernel
abbrev cJ6_bitCount_0f7a4 : ByteArray := prog_9_method_49_code
def yJ6_bitCount_0f7a4 : MethodName := ⟨RJ6, "bitCount", "(I)I"⟩
def RJ9 : String := "java/lang/Math"
def TJ9 : u_T := fun k => match k with
  | _ => ("", "", "", false)
def tyJ9 : Nat → FieldType := fun k => match k with
  | _ => .int
abbrev wsJ90 : List Cond := u_ws RJ9 TJ9 0
theorem nmJ9 : ∀ a, a < 0 → ∀ b, b < 0 → a ≠ b → (TJ9 a).2.1 ≠ (TJ9 b).2.1 := by decide +kernel
theorem tyJ9_ok : ∀ k, k < 0 → parseFieldDescriptor (TJ9 k).2.2.1 = some (tyJ9 k) := by decide +kernel
abbrev cJ9_abs_0f7a4 : ByteArray := prog_10_method_59_code
def yJ9_abs_0f7a4 : MethodName := ⟨RJ9, "abs", "(I)I"⟩
abbrev cJ9_abs_067f4 : ByteArray := prog_10_method_61_code
def yJ9_abs_067f4 : MethodName := ⟨RJ9, "abs", "(J)J"⟩
abbrev cJ9_max_7cf53 : ByteArray := prog_10_method_65_code
def yJ9_max_7cf53 : MethodName := ⟨RJ9, "max", "(II)I"⟩
abbrev cJ9_max_f86c9 : ByteArray := prog_10_method_66_code
def yJ9_max_f86c9 : MethodName := ⟨RJ9, "max", "(JJ)J"⟩
abbrev cJ9_min_7cf53 : ByteArray := prog_10_method_69_code
def yJ9_min_7cf53 : MethodName := ⟨RJ9, "min", "(II)I"⟩
def RJ10 : String := "java/lang/System"
def TJ10 : u_T := fun k => match k with
  | _ => ("", "", "", false)
def tyJ10 : Nat → FieldType := fun k => match k with
  | _ => .int
abbrev wsJ100 : List Cond := u_ws RJ10 TJ10 0
theorem nmJ10 : ∀ a, a < 0 → ∀ b, b < 0 → a ≠ b → (TJ10 a).2.1 ≠ (TJ10 b).2.1 := by decide +kernel
theorem tyJ10_ok : ∀ k, k < 0 → parseFieldDescriptor (TJ10 k).2.2.1 = some (tyJ10 k) := by decide +kernel
def RJ7 : String := "java/util/Arrays"
def TJ7 : u_T := fun k => match k with
  | _ => ("", "", "", false)
def tyJ7 : Nat → FieldType := fun k => match k with
  | _ => .int
abbrev wsJ70 : List Cond := u_ws RJ7 TJ7 0
theorem nmJ7 : ∀ a, a < 0 → ∀ b, b < 0 → a ≠ b → (TJ7 a).2.1 ≠ (TJ7 b).2.1 := by decide +kernel
theorem tyJ7_ok : ∀ k, k < 0 → parseFieldDescriptor (TJ7 k).2.2.1 = some (tyJ7 k) := by decide +kernel
abbrev cJ7_fill_53178 : ByteArray := prog_12_method_103_code
def yJ7_fill_53178 : MethodName := ⟨RJ7, "fill", "([II)V"⟩
def RL : String := "HammockDeckLaw"
abbrev cL_cell : ByteArray := method_2_code
def yL_cell : MethodName := ⟨RL, "cell", "([II)I"⟩
abbrev cL_low : ByteArray := method_3_code
def yL_low : MethodName := ⟨RL, "low", "(II)I"⟩
abbrev cL_letter : ByteArray := method_4_code
def yL_letter : MethodName := ⟨RL, "letter", "(I)I"⟩
abbrev cL_placeLetter : ByteArray := method_5_code
def yL_placeLetter : MethodName := ⟨RL, "placeLetter", "(I)I"⟩
abbrev cL_deck : ByteArray := method_6_code
def yL_deck : MethodName := ⟨RL, "deck", "(LHammockDeck;[I[I[I)Z"⟩
abbrev cL_bits : ByteArray := method_12_code
def yL_bits : MethodName := ⟨RL, "bits", "(I)I"⟩
abbrev cL_whoAt : ByteArray := method_13_code
def yL_whoAt : MethodName := ⟨RL, "whoAt", "([II)I"⟩
abbrev cL_stir : ByteArray := method_14_code
def yL_stir : MethodName := ⟨RL, "stir", "(LHammockDeck;[I[II)Z"⟩
abbrev cL_told : ByteArray := method_17_code
def yL_told : MethodName := ⟨RL, "told", "(LHammockDeck;II)I"⟩
abbrev cL_law : ByteArray := code
def yL_law : MethodName := ⟨RL, "law", "([I)Z"⟩
end
section
/-! THE PURE MACHINE: a heap is a list of cells, counted from a base address; a method is run as a function -/
/-- an int array; an array of references (its class's number); an object (class number, fields) -/
abbrev zC : Type := (Nat × (Nat → Int32)) ⊕ ((Nat × Nat × (Nat → Option Nat)) ⊕ (Nat × List Value))
abbrev zH : Type := List zC
/-- base address; what the old arrays hold (true: chars); where the static arrays are -/
abbrev zE : Type := Nat × (Nat → Option (Bool × Nat × (Nat → Int32))) × (Nat → Nat)
abbrev zRes : Type := Option Value × zH
abbrev zK : Type := Nat → Nat → List (Option Value) → List Value → zH → Option zRes
abbrev zL : Type := Nat × Nat × Nat × Nat × Nat × Int
abbrev zI : Type := Nat × Nat × Instr × zL
def zget (r : zE) (h : zH) (a : Nat) : Option zC := if r.1 ≤ a then h[a - r.1]? else none
def zgI (r : zE) (h : zH) (a ci k : Nat) : Option Int32 := match zget r h a with
  | some (.inr (.inr (c, fs))) => if c = ci then (match fs[k]? with | some (.int x) => some x | _ => none) else none
  | _ => none
def zgL (r : zE) (h : zH) (a ci k : Nat) : Option Int64 := match zget r h a with
  | some (.inr (.inr (c, fs))) => if c = ci then (match fs[k]? with | some (.long x) => some x | _ => none) else none
  | _ => none
def zgR (r : zE) (h : zH) (a ci k : Nat) : Option Nat := match zget r h a with
  | some (.inr (.inr (c, fs))) => if c = ci then (match fs[k]? with | some (.ref x) => some x | _ => none) else none
  | _ => none
def zpF (r : zE) (h : zH) (a ci k : Nat) (v : Value) : Option zH := match zget r h a with
  | some (.inr (.inr (c, fs))) => if c = ci ∧ k < fs.length then some (h.set (a - r.1) (.inr (.inr (c, fs.set k v)))) else none
  | _ => none
def zix (i : Int32) (n : Nat) : Option Nat := if i < 0 ∨ n ≤ i.toNatClampNeg then none else some i.toNatClampNeg
def zaI (r : zE) (h : zH) (a : Nat) (i : Int32) : Option Int32 := if r.1 ≤ a then
    (match h[a - r.1]? with | some (.inl (n, f)) => (zix i n).map f | _ => none)
  else (match r.2.1 a with | some (false, n, f) => (zix i n).map f | _ => none)
def zaC (r : zE) (a : Nat) (i : Int32) : Option Int32 := if r.1 ≤ a then none
  else (match r.2.1 a with | some (true, n, f) => (zix i n).map f | _ => none)
def zaQ (r : zE) (h : zH) (a : Nat) (i : Int32) : Option (Option Nat) := match zget r h a with
  | some (.inr (.inl (c, n, f))) => if c = 4 ∨ c = 2 then (zix i n).map f else none
  | _ => none
def zaN (r : zE) (h : zH) (a : Nat) : Option Nat := if r.1 ≤ a then
    (match h[a - r.1]? with | some (.inl (n, _)) => some n | some (.inr (.inl (c, n, _))) => if c = 4 ∨ c = 2 then some n else none | _ => none)
  else (match r.2.1 a with | some (_, n, _) => some n | _ => none)
def zsI (r : zE) (h : zH) (a : Nat) (i x : Int32) : Option zH := match zget r h a with
  | some (.inl (n, f)) => (zix i n).map fun j => h.set (a - r.1) (.inl (n, upd f j x))
  | _ => none
def zob (r : zE) (h : zH) (a ci : Nat) : Bool := match zget r h a with
  | some (.inr (.inr (c, _))) => c == ci
  | _ => false
def zsQ (r : zE) (h : zH) (a : Nat) (i : Int32) (v : Nat) : Option zH := match zget r h a with
  | some (.inr (.inl (c, n, f))) => if zob r h v c = true ∧ (c = 4 ∨ c = 2) then (zix i n).map fun j => h.set (a - r.1) (.inr (.inl (c, n, va_up f j (some v)))) else none
  | _ => none
def zcp (r : zE) (h : zH) (a0 : Nat) (sp : Int32) (a1 : Nat) (dp n : Int32) : Option zH := match zget r h a0, zget r h a1 with
  | some (.inl (n0, f)), some (.inl (n1, g)) =>
    if sp < 0 ∨ dp < 0 ∨ n < 0 ∨ n0 < sp.toNatClampNeg + n.toNatClampNeg ∨ n1 < dp.toNatClampNeg + n.toNatClampNeg then none
    else some (h.set (a1 - r.1) (.inl (n1, va_cpy f g sp.toNatClampNeg dp.toNatClampNeg n.toNatClampNeg)))
  | _, _ => none
/-! operands -/
section ZP
variable {X : Type}
def zp1i (st : List Value) (k : Int32 → List Value → Option X) : Option X := match st with | .int x :: t => k x t | _ => none
def zp2i (st : List Value) (k : Int32 → Int32 → List Value → Option X) : Option X := match st with | .int y :: .int x :: t => k x y t | _ => none
def zp1l (st : List Value) (k : Int64 → List Value → Option X) : Option X := match st with | .long x :: t => k x t | _ => none
def zp2l (st : List Value) (k : Int64 → Int64 → List Value → Option X) : Option X := match st with | .long y :: .long x :: t => k x y t | _ => none
def zp1r (st : List Value) (k : Nat → List Value → Option X) : Option X := match st with | .ref a :: t => k a t | _ => none
def zp1q (st : List Value) (k : Option Nat → List Value → Option X) : Option X := match st with | .ref a :: t => k (some a) t | .null :: t => k none t | _ => none
def zpia (st : List Value) (k : Nat → Int32 → List Value → Option X) : Option X := match st with | .int i :: .ref a :: t => k a i t | _ => none
def zpla (st : List Value) (k : Nat → Int64 → List Value → Option X) : Option X := match st with | .long i :: .ref a :: t => k a i t | _ => none
def zpra (st : List Value) (k : Nat → Nat → List Value → Option X) : Option X := match st with | .ref i :: .ref a :: t => k a i t | _ => none
def zpiia (st : List Value) (k : Nat → Int32 → Int32 → List Value → Option X) : Option X := match st with | .int x :: .int i :: .ref a :: t => k a i x t | _ => none
def zpria (st : List Value) (k : Nat → Int32 → Nat → List Value → Option X) : Option X := match st with | .ref x :: .int i :: .ref a :: t => k a i x t | _ => none
def zp1v (st : List Value) (k : Value → List Value → Option X) : Option X := match st with | v :: t => (if v.category = 1 then k v t else none) | _ => none
def zp2v (st : List Value) (k : Value → Value → List Value → Option X) : Option X := match st with | v :: w :: t => (if v.category = 1 ∧ w.category = 1 then k v w t else none) | _ => none
def zpcp (st : List Value) (k : Nat → Int32 → Nat → Int32 → Int32 → List Value → Option X) : Option X := match st with | .int n :: .int dp :: .ref a1 :: .int sp :: .ref a0 :: t => k a0 sp a1 dp n t | _ => none
def zpop (st : List Value) (n : Nat) (k : List Value → List Value → Option X) : Option X := if n ≤ st.length ∧ ((st.drop n).map fun v => v.category).sum ≤ 8 then k (st.take n).reverse (st.drop n) else none
def zli (lv : List (Option Value)) (i : Nat) (k : Int32 → Option X) : Option X := match lv[i]? with | some (some (.int x)) => k x | _ => none
def zll (lv : List (Option Value)) (i : Nat) (k : Int64 → Option X) : Option X := match lv[i]? with | some (some (.long x)) => k x | _ => none
def zlq (lv : List (Option Value)) (i : Nat) (k : Value → Option X) : Option X := match lv[i]? with | some (some (.ref x)) => k (.ref x) | some (some .null) => k .null | _ => none
def zcV (q : Option zRes) (k : zH → Option X) : Option X := match q with | some (none, h) => k h | _ => none
def zcI (q : Option zRes) (k : Int32 → zH → Option X) : Option X := match q with | some (some (.int x), h) => k x h | _ => none
def zcL (q : Option zRes) (k : Int64 → zH → Option X) : Option X := match q with | some (some (.long x), h) => k x h | _ => none
def zcQ (q : Option zRes) (k : Option Nat → zH → Option X) : Option X := match q with | some (some (.ref a), h) => k (some a) h | some (some .null, h) => k none h | _ => none
def zcl (lv : List (Option Value)) (i : Nat) : List (Option Value) := match i with
  | 0 => lv
  | j + 1 => match lv[j]? with
    | some (some v) => if v.category = 2 then lv.set j none else lv
    | _ => lv
def zs1 (lv : List (Option Value)) (i : Nat) (v : Value) (k : List (Option Value) → Option X) : Option X := if i < lv.length then k ((zcl lv i).set i (some v)) else none
def zs2 (lv : List (Option Value)) (i : Nat) (v : Value) (k : List (Option Value) → Option X) : Option X := if i + 1 < lv.length then k (((zcl lv i).set i (some v)).set (i + 1) none) else none
def zenl (vs : List Value) : List (Option Value) := vs.flatMap fun v => if v.category = 2 then [some v, none] else [some v]
def zent (n : Nat) (vs : List Value) : List (Option Value) := zenl vs ++ List.replicate (n - (zenl vs).length) none
def zt (pc : Nat) (off : Int) : Nat := ((pc : Int) + off).toNat
def zts (pc : Nat) (k : Nat → Option X) (x : Int32) : Int → List Int → Int → Option X
  | _, [], d => k (zt pc d)
  | lo, o :: os, d => if x = Int32.ofInt lo then k (zt pc o) else zts pc k x (lo + 1) os d
def zls (pc : Nat) (k : Nat → Option X) (x : Int32) : List (Int × Int) → Int → Option X
  | [], d => k (zt pc d)
  | o :: os, d => if x = Int32.ofInt o.1 then k (zt pc o.2) else zls pc k x os d
end ZP
/-- locals forgotten, by the bits of a number -/
def zfg : Nat → List (Option Value) → List (Option Value)
  | _, [] => []
  | m, v :: l => (if m % 2 = 1 then none else v) :: zfg (m / 2) l
/-- default fields of the classes, by number -/
def zdf (ci : Nat) : List Value := match ci with
  | 0 => [.null, .null, .null, .null, .null]
  | 1 => [.int 0, .int 0, .null, .null, .null, .null, .null]
  | 2 => [.null, .int 0]
  | 3 => [.null, .null, .int 0]
  | 4 => [.null, .int 0]
  | _ => (List.range 12).map (fun j => defaultValue (tyX5 j))
/-- a call, by the kind of its answer -/
def zca (kind : Nat) (q : Option zRes) (k : List Value → zH → Option zRes) : Option zRes := match kind with
  | 0 => zcV q fun h => k [] h
  | 1 => zcI q fun x h => k [.int x] h
  | 2 => zcL q fun x h => k [.long x] h
  | _ => zcQ q fun x h => match x with | none => k [.null] h | some a => k [.ref a] h
/-- one instruction: Kc runs a callee, K goes on -/
def zx (r : zE) (Kc K : zK) (mi pc n : Nat) (ins : Instr) (w : zL) (lv : List (Option Value)) (st : List Value) (h : zH) : Option zRes := match ins with
  | .iconst i => K mi (pc + n) lv (.int (Int32.ofInt i) :: st) h
  | .bipush i => K mi (pc + n) lv (.int (Int32.ofInt i) :: st) h
  | .sipush i => K mi (pc + n) lv (.int (Int32.ofInt i) :: st) h
  | .lconst i => K mi (pc + n) lv (.long (Int64.ofNat i) :: st) h
  | .ldc _ => K mi (pc + n) lv (.int (Int32.ofInt w.2.2.2.2.2) :: st) h
  | .ldc_w _ => K mi (pc + n) lv (.int (Int32.ofInt w.2.2.2.2.2) :: st) h
  | .ldc2_w _ => K mi (pc + n) lv (.long (Int64.ofInt w.2.2.2.2.2) :: st) h
  | .aconst_null => K mi (pc + n) lv (.null :: st) h
  | .iload i => zli lv i fun x => K mi (pc + n) lv (.int x :: st) h
  | .iload_n i => zli lv i fun x => K mi (pc + n) lv (.int x :: st) h
  | .lload i => zll lv i fun x => K mi (pc + n) lv (.long x :: st) h
  | .lload_n i => zll lv i fun x => K mi (pc + n) lv (.long x :: st) h
  | .aload i => zlq lv i fun x => K mi (pc + n) lv (x :: st) h
  | .aload_n i => zlq lv i fun x => K mi (pc + n) lv (x :: st) h
  | .istore i => zp1i st fun x t => zs1 lv i (.int x) fun lv => K mi (pc + n) lv t h
  | .istore_n i => zp1i st fun x t => zs1 lv i (.int x) fun lv => K mi (pc + n) lv t h
  | .lstore i => zp1l st fun x t => zs2 lv i (.long x) fun lv => K mi (pc + n) lv t h
  | .lstore_n i => zp1l st fun x t => zs2 lv i (.long x) fun lv => K mi (pc + n) lv t h
  | .astore i => zp1q st fun x t => zs1 lv i (va_rf x) fun lv => K mi (pc + n) lv t h
  | .astore_n i => zp1q st fun x t => zs1 lv i (va_rf x) fun lv => K mi (pc + n) lv t h
  | .iinc i c => zli lv i fun x => zs1 lv i (.int (x + Int32.ofInt c)) fun lv => K mi (pc + n) lv st h
  | .iadd => zp2i st fun x y t => K mi (pc + n) lv (.int (x + y) :: t) h
  | .isub => zp2i st fun x y t => K mi (pc + n) lv (.int (x - y) :: t) h
  | .imul => zp2i st fun x y t => K mi (pc + n) lv (.int (x * y) :: t) h
  | .iand => zp2i st fun x y t => K mi (pc + n) lv (.int (x &&& y) :: t) h
  | .ior => zp2i st fun x y t => K mi (pc + n) lv (.int (x ||| y) :: t) h
  | .ixor => zp2i st fun x y t => K mi (pc + n) lv (.int (x ^^^ y) :: t) h
  | .idiv => zp2i st fun x y t => if y = 0 then none else K mi (pc + n) lv (.int (x / y) :: t) h
  | .irem => zp2i st fun x y t => if y = 0 then none else K mi (pc + n) lv (.int (x - x / y * y) :: t) h
  | .ineg => zp1i st fun x t => K mi (pc + n) lv (.int (-x) :: t) h
  | .ishl => zp2i st fun x y t => K mi (pc + n) lv (.int (x <<< (y &&& 31)) :: t) h
  | .ishr => zp2i st fun x y t => K mi (pc + n) lv (.int (x >>> (y &&& 31)) :: t) h
  | .iushr => zp2i st fun x y t => K mi (pc + n) lv (.int ((x.toUInt32 >>> (y.toUInt32 &&& Int32.toUInt32 31)).toInt32) :: t) h
  | .ladd => zp2l st fun x y t => K mi (pc + n) lv (.long (x + y) :: t) h
  | .lmul => zp2l st fun x y t => K mi (pc + n) lv (.long (x * y) :: t) h
  | .ldiv => zp2l st fun x y t => if y = 0 then none else K mi (pc + n) lv (.long (x / y) :: t) h
  | .lrem => zp2l st fun x y t => if y = 0 then none else K mi (pc + n) lv (.long (x - x / y * y) :: t) h
  | .lneg => zp1l st fun x t => K mi (pc + n) lv (.long (-x) :: t) h
  | .lcmp => zp2l st fun x y t => K mi (pc + n) lv (.int (lg_cmp x y) :: t) h
  | .i2l => zp1i st fun x t => K mi (pc + n) lv (.long x.toInt64 :: t) h
  | .l2i => zp1l st fun x t => K mi (pc + n) lv (.int x.toInt32 :: t) h
  | .i2b => zp1i st fun x t => K mi (pc + n) lv (.int x.toInt8.toInt32 :: t) h
  | .dup => zp1v st fun v t => K mi (pc + n) lv (v :: v :: t) h
  | .pop => zp1v st fun _ t => K mi (pc + n) lv t h
  | .dup2 => zp2v st fun v u t => K mi (pc + n) lv (v :: u :: v :: u :: t) h
  | .goto _ => K mi w.1 (zfg w.2.1 lv) st h
  | .ifCond .eq _ => zp1i st fun x t => if x = 0 then K mi w.1 lv t h else K mi (pc + n) lv t h
  | .ifCond .ne _ => zp1i st fun x t => if x = 0 then K mi (pc + n) lv t h else K mi w.1 lv t h
  | .ifCond .lt _ => zp1i st fun x t => if x < 0 then K mi w.1 lv t h else K mi (pc + n) lv t h
  | .ifCond .ge _ => zp1i st fun x t => if x < 0 then K mi (pc + n) lv t h else K mi w.1 lv t h
  | .ifCond .gt _ => zp1i st fun x t => if 0 < x then K mi w.1 lv t h else K mi (pc + n) lv t h
  | .ifCond .le _ => zp1i st fun x t => if 0 < x then K mi (pc + n) lv t h else K mi w.1 lv t h
  | .if_icmp .eq _ => zp2i st fun x y t => if x = y then K mi w.1 lv t h else K mi (pc + n) lv t h
  | .if_icmp .ne _ => zp2i st fun x y t => if x = y then K mi (pc + n) lv t h else K mi w.1 lv t h
  | .if_icmp .lt _ => zp2i st fun x y t => if x < y then K mi w.1 lv t h else K mi (pc + n) lv t h
  | .if_icmp .ge _ => zp2i st fun x y t => if x < y then K mi (pc + n) lv t h else K mi w.1 lv t h
  | .if_icmp .gt _ => zp2i st fun x y t => if y < x then K mi w.1 lv t h else K mi (pc + n) lv t h
  | .if_icmp .le _ => zp2i st fun x y t => if y < x then K mi (pc + n) lv t h else K mi w.1 lv t h
  | .ifnull _ => zp1q st fun x t => match x with | none => K mi w.1 lv t h | some _ => K mi (pc + n) lv t h
  | .ifnonnull _ => zp1q st fun x t => match x with | none => K mi (pc + n) lv t h | some _ => K mi w.1 lv t h
  | .tableswitch d lo _ os => zp1i st fun x t => zts pc (fun q => K mi q lv t h) x lo os.toList d
  | .lookupswitch d ps => zp1i st fun x t => zls pc (fun q => K mi q lv t h) x ps.toList d
  | .getfield _ => zp1r st fun a t => match w.2.2.1 with
    | 0 => (zgI r h a w.1 w.2.1).bind fun x => K mi (pc + n) lv (.int x :: t) h
    | 1 => (zgL r h a w.1 w.2.1).bind fun x => K mi (pc + n) lv (.long x :: t) h
    | _ => (zgR r h a w.1 w.2.1).bind fun x => K mi (pc + n) lv (.ref x :: t) h
  | .putfield _ => match w.2.2.1 with
    | 0 => zpia st fun a x t => (zpF r h a w.1 w.2.1 (.int x)).bind fun h => K mi (pc + n) lv t h
    | 1 => zpla st fun a x t => (zpF r h a w.1 w.2.1 (.long x)).bind fun h => K mi (pc + n) lv t h
    | _ => zpra st fun a x t => (zpF r h a w.1 w.2.1 (.ref x)).bind fun h => K mi (pc + n) lv t h
  | .getstatic _ => K mi (pc + n) lv (.ref (r.2.2 w.1) :: st) h
  | .new _ => K mi (pc + n) lv (.ref (r.1 + h.length) :: st) (h ++ [.inr (.inr (w.1, zdf w.1))])
  | .newarray .int => zp1i st fun x t => if x < 0 ∨ 100000 < x.toNatClampNeg then none else K mi (pc + n) lv (.ref (r.1 + h.length) :: t) (h ++ [.inl (x.toNatClampNeg, fun _ => 0)])
  | .anewarray _ => zp1i st fun x t => if x < 0 ∨ 100000 < x.toNatClampNeg then none else K mi (pc + n) lv (.ref (r.1 + h.length) :: t) (h ++ [.inr (.inl (w.1, x.toNatClampNeg, fun _ => none))])
  | .iaload => zpia st fun a i t => (zaI r h a i).bind fun x => K mi (pc + n) lv (.int x :: t) h
  | .caload => zpia st fun a i t => (zaC r a i).bind fun x => K mi (pc + n) lv (.int x :: t) h
  | .aaload => zpia st fun a i t => (zaQ r h a i).bind fun x => match x with | none => K mi (pc + n) lv (.null :: t) h | some b => K mi (pc + n) lv (.ref b :: t) h
  | .iastore => zpiia st fun a i x t => (zsI r h a i x).bind fun h => K mi (pc + n) lv t h
  | .aastore => zpria st fun a i x t => (zsQ r h a i x).bind fun h => K mi (pc + n) lv t h
  | .arraylength => zp1r st fun a t => (zaN r h a).bind fun x => K mi (pc + n) lv (.int (Int32.ofNat x) :: t) h
  | .invokevirtual _ => zpop st w.2.2.1 fun as t => zp1r t fun b t => if zob r h b w.2.2.2.2.2.toNat = true then (if (zenl (.ref b :: as)).length ≤ w.2.2.2.2.1 then
      zca w.2.2.2.1 (Kc w.1 0 (zent w.2.2.2.2.1 (.ref b :: as)) [] h) fun v h => K mi (pc + n) lv (v ++ t) h else none) else none
  | .invokespecial _ => match w.2.1 with
    | 4 => zp1r st fun _ t => if (t.map fun v => v.category).sum ≤ 8 then K mi (pc + n) lv t h else none
    | _ => zpop st w.2.2.1 fun as t => zp1r t fun b t => if (zenl (.ref b :: as)).length ≤ w.2.2.2.2.1 then
      zca w.2.2.2.1 (Kc w.1 0 (zent w.2.2.2.2.1 (.ref b :: as)) [] h) fun v h => K mi (pc + n) lv (v ++ t) h else none
  | .invokestatic _ => match w.2.1 with
    | 3 => zpcp st fun a0 sp a1 dp m t => if (t.map fun v => v.category).sum ≤ 8 then (zcp r h a0 sp a1 dp m).bind fun h => K mi (pc + n) lv t h else none
    | 5 => zp1i st fun x t => if (t.map fun v => v.category).sum ≤ 8 then K mi (pc + n) lv (.int (if 0 ≤ x then x else 0 - x) :: t) h else none
    | 6 => zp2i st fun x y t => if (t.map fun v => v.category).sum ≤ 8 then K mi (pc + n) lv (.int (if x < y then y else x) :: t) h else none
    | 7 => zp2i st fun x y t => if (t.map fun v => v.category).sum ≤ 8 then K mi (pc + n) lv (.int (if y < x then y else x) :: t) h else none
    | 8 => zp1l st fun x t => if (t.map fun v => v.category).sum ≤ 8 then K mi (pc + n) lv (.long (if 0 < x then x else -x) :: t) h else none
    | 9 => zp2l st fun x y t => if (t.map fun v => v.category).sum ≤ 8 then K mi (pc + n) lv (.long (if y < x then x else y) :: t) h else none
    | _ => zpop st w.2.2.1 fun as t => if (zenl as).length ≤ w.2.2.2.2.1 then
      zca w.2.2.2.1 (Kc w.1 0 (zent w.2.2.2.2.1 as) [] h) fun v h => K mi (pc + n) lv (v ++ t) h else none
  | .ireturn => match st with
    | [.int x] => (match w.1 with | 0 => some (some (.int x), h) | _ => if x = 0 ∨ x = 1 then some (some (.int x), h) else none)
    | _ => none
  | .lreturn => match st with | [.long x] => some (some (.long x), h) | _ => none
  | .areturn => match st with | [.ref x] => some (some (.ref x), h) | [.null] => some (some .null, h) | _ => none
  | .return_ => match st with | [] => some (none, h) | _ => none
  | _ => none
def zlk : List zI → Nat → Option (Nat × Instr × zL)
  | [], _ => none
  | q :: l, pc => if q.1 = pc then some q.2 else zlk l pc
end
section
/-! the code of every method: place, length, instruction, what it links (target; class, field, type; callee, kind, how many arguments, answer, locals, receiver) -/
def z_L_law_0 : List zI := [
  (0, 3, .new 20, (5, 0, 0, 0, 0, 0)), (3, 1, .dup, (0, 0, 0, 0, 0, 0)), (4, 3, .invokespecial 81, (65, 1, 0, 0, 2, 0)), (7, 1, .astore_n 1, (0, 0, 0, 0, 0, 0)), (8, 2, .bipush 27, (0, 0, 0, 0, 0, 0)), (10, 2, .newarray .int, (0, 0, 0, 0, 0, 0)),
  (12, 1, .astore_n 2, (0, 0, 0, 0, 0, 0)), (13, 2, .bipush 18, (0, 0, 0, 0, 0, 0)), (15, 2, .newarray .int, (0, 0, 0, 0, 0, 0)), (17, 1, .astore_n 3, (0, 0, 0, 0, 0, 0)), (18, 1, .aload_n 1, (0, 0, 0, 0, 0, 0)), (19, 1, .aload_n 0, (0, 0, 0, 0, 0, 0)),
  (20, 1, .aload_n 2, (0, 0, 0, 0, 0, 0)), (21, 1, .aload_n 3, (0, 0, 0, 0, 0, 0))]
def z_L_law_1 : List zI := [
  (22, 3, .invokestatic 82, (134, 2, 4, 1, 8, 0))]
def z_L_law_2 : List zI := [
  (25, 3, .ifCond .ne 5, (30, 0, 0, 0, 0, 0)), (28, 1, .iconst 0, (0, 0, 0, 0, 0, 0)), (29, 1, .ireturn, (1, 0, 0, 0, 0, 0)), (30, 1, .aload_n 2, (0, 0, 0, 0, 0, 0)), (31, 1, .iconst 1, (0, 0, 0, 0, 0, 0)), (32, 1, .iaload, (0, 0, 0, 0, 0, 0)),
  (33, 2, .istore 4, (0, 0, 0, 0, 0, 0)), (35, 1, .aload_n 1, (0, 0, 0, 0, 0, 0)), (36, 3, .invokevirtual 85, (105, 0, 0, 2, 5, 5)), (39, 2, .lstore 5, (0, 0, 0, 0, 0, 0)), (41, 1, .aload_n 1, (0, 0, 0, 0, 0, 0)), (42, 1, .iconst 0, (0, 0, 0, 0, 0, 0)),
  (43, 3, .invokevirtual 89, (82, 0, 1, 1, 2, 5)), (46, 3, .ifCond .eq 5, (51, 0, 0, 0, 0, 0)), (49, 1, .iconst 0, (0, 0, 0, 0, 0, 0)), (50, 1, .ireturn, (1, 0, 0, 0, 0, 0)), (51, 1, .iconst 0, (0, 0, 0, 0, 0, 0)), (52, 2, .istore 7, (0, 0, 0, 0, 0, 0)),
  (54, 2, .iload 7, (0, 0, 0, 0, 0, 0)), (56, 1, .iconst 3, (0, 0, 0, 0, 0, 0)), (57, 3, .if_icmp .ge 1896, (1953, 0, 0, 0, 0, 0)), (60, 1, .aload_n 0, (0, 0, 0, 0, 0, 0)), (61, 2, .bipush 7, (0, 0, 0, 0, 0, 0)), (63, 2, .iload 7, (0, 0, 0, 0, 0, 0)),
  (65, 1, .iadd, (0, 0, 0, 0, 0, 0)), (66, 3, .invokestatic 9, (130, 2, 2, 1, 2, 0)), (69, 2, .istore 8, (0, 0, 0, 0, 0, 0)), (71, 1, .aload_n 1, (0, 0, 0, 0, 0, 0)), (72, 1, .aload_n 2, (0, 0, 0, 0, 0, 0)), (73, 1, .aload_n 3, (0, 0, 0, 0, 0, 0)),
  (74, 2, .iload 8, (0, 0, 0, 0, 0, 0))]
def z_L_law_3 : List zI := [
  (76, 3, .invokestatic 92, (137, 2, 4, 1, 10, 0))]
def z_L_law_4 : List zI := [
  (79, 3, .ifCond .ne 5, (84, 0, 0, 0, 0, 0)), (82, 1, .iconst 0, (0, 0, 0, 0, 0, 0)), (83, 1, .ireturn, (1, 0, 0, 0, 0, 0)), (84, 1, .iconst 0, (0, 0, 0, 0, 0, 0)), (85, 2, .istore 9, (0, 0, 0, 0, 0, 0)), (87, 1, .iconst 0, (0, 0, 0, 0, 0, 0)),
  (88, 2, .istore 10, (0, 0, 0, 0, 0, 0)), (90, 2, .iload 10, (0, 0, 0, 0, 0, 0)), (92, 1, .aload_n 2, (0, 0, 0, 0, 0, 0)), (93, 1, .iconst 0, (0, 0, 0, 0, 0, 0)), (94, 1, .iaload, (0, 0, 0, 0, 0, 0)), (95, 3, .if_icmp .ge 79, (174, 0, 0, 0, 0, 0)),
  (98, 1, .aload_n 1, (0, 0, 0, 0, 0, 0)), (99, 2, .iload 10, (0, 0, 0, 0, 0, 0)), (101, 1, .iconst 1, (0, 0, 0, 0, 0, 0)), (102, 3, .invokevirtual 96, (75, 0, 2, 1, 3, 5)), (105, 1, .iconst 1, (0, 0, 0, 0, 0, 0)), (106, 3, .if_icmp .ne 10, (116, 0, 0, 0, 0, 0)),
  (109, 1, .aload_n 1, (0, 0, 0, 0, 0, 0)), (110, 3, .invokevirtual 77, (101, 0, 0, 1, 1, 5)), (113, 3, .goto 5, (118, 0, 0, 0, 0, 0)), (116, 2, .bipush (-99), (0, 0, 0, 0, 0, 0)), (118, 2, .istore 11, (0, 0, 0, 0, 0, 0)), (120, 2, .iload 11, (0, 0, 0, 0, 0, 0)),
  (122, 2, .bipush (-9), (0, 0, 0, 0, 0, 0)), (124, 3, .if_icmp .eq 29, (153, 0, 0, 0, 0, 0)), (127, 2, .iload 11, (0, 0, 0, 0, 0, 0)), (129, 3, .ifCond .lt 22, (151, 0, 0, 0, 0, 0)), (132, 2, .iload 11, (0, 0, 0, 0, 0, 0)), (134, 2, .iload 4, (0, 0, 0, 0, 0, 0)),
  (136, 3, .if_icmp .ge 15, (151, 0, 0, 0, 0, 0)), (139, 1, .aload_n 1, (0, 0, 0, 0, 0, 0)), (140, 2, .iload 11, (0, 0, 0, 0, 0, 0)), (142, 1, .iconst 4, (0, 0, 0, 0, 0, 0)), (143, 3, .invokestatic 99, (138, 2, 3, 1, 3, 0)), (146, 2, .iload 10, (0, 0, 0, 0, 0, 0)),
  (148, 3, .if_icmp .eq 5, (153, 0, 0, 0, 0, 0)), (151, 1, .iconst 0, (0, 0, 0, 0, 0, 0)), (152, 1, .ireturn, (1, 0, 0, 0, 0, 0)), (153, 2, .iload 9, (0, 0, 0, 0, 0, 0)), (155, 2, .iload 11, (0, 0, 0, 0, 0, 0)), (157, 3, .ifCond .ge 7, (164, 0, 0, 0, 0, 0)),
  (160, 1, .iconst 0, (0, 0, 0, 0, 0, 0)), (161, 3, .goto 4, (165, 0, 0, 0, 0, 0)), (164, 1, .iconst 1, (0, 0, 0, 0, 0, 0)), (165, 1, .iadd, (0, 0, 0, 0, 0, 0)), (166, 2, .istore 9, (0, 0, 0, 0, 0, 0)), (168, 3, .iinc 10 1, (0, 0, 0, 0, 0, 0))]
def z_L_law_5 : List zI := [
  (171, 3, .goto (-81), (90, 2048, 0, 0, 0, 0)), (174, 1, .aload_n 1, (0, 0, 0, 0, 0, 0)), (175, 1, .iconst 2, (0, 0, 0, 0, 0, 0)), (176, 3, .invokevirtual 103, (104, 0, 1, 1, 2, 5)), (179, 2, .istore 10, (0, 0, 0, 0, 0, 0)), (181, 1, .aload_n 1, (0, 0, 0, 0, 0, 0)),
  (182, 3, .invokevirtual 85, (105, 0, 0, 2, 5, 5)), (185, 2, .lstore 11, (0, 0, 0, 0, 0, 0)), (187, 2, .iload 9, (0, 0, 0, 0, 0, 0)), (189, 1, .aload_n 1, (0, 0, 0, 0, 0, 0)), (190, 1, .iconst 3, (0, 0, 0, 0, 0, 0)), (191, 3, .invokevirtual 103, (104, 0, 1, 1, 2, 5)),
  (194, 3, .if_icmp .eq 5, (199, 0, 0, 0, 0, 0)), (197, 1, .iconst 0, (0, 0, 0, 0, 0, 0)), (198, 1, .ireturn, (1, 0, 0, 0, 0, 0)), (199, 1, .iconst 0, (0, 0, 0, 0, 0, 0)), (200, 2, .istore 13, (0, 0, 0, 0, 0, 0)), (202, 2, .iload 13, (0, 0, 0, 0, 0, 0)),
  (204, 1, .iconst 3, (0, 0, 0, 0, 0, 0)), (205, 3, .if_icmp .ge 1045, (1250, 0, 0, 0, 0, 0)), (208, 1, .iconst 0, (0, 0, 0, 0, 0, 0)), (209, 2, .istore 14, (0, 0, 0, 0, 0, 0)), (211, 1, .iconst (-1), (0, 0, 0, 0, 0, 0)), (212, 2, .istore 15, (0, 0, 0, 0, 0, 0)),
  (214, 1, .iconst 0, (0, 0, 0, 0, 0, 0)), (215, 2, .istore 16, (0, 0, 0, 0, 0, 0)), (217, 1, .iconst 0, (0, 0, 0, 0, 0, 0)), (218, 2, .istore 17, (0, 0, 0, 0, 0, 0)), (220, 2, .iload 17, (0, 0, 0, 0, 0, 0)), (222, 2, .iload 4, (0, 0, 0, 0, 0, 0)),
  (224, 3, .if_icmp .ge 480, (704, 0, 0, 0, 0, 0)), (227, 1, .aload_n 1, (0, 0, 0, 0, 0, 0)), (228, 2, .iload 17, (0, 0, 0, 0, 0, 0)), (230, 2, .iload 13, (0, 0, 0, 0, 0, 0)), (232, 3, .invokevirtual 106, (84, 0, 2, 1, 3, 5)), (235, 2, .istore 18, (0, 0, 0, 0, 0, 0)),
  (237, 1, .aload_n 1, (0, 0, 0, 0, 0, 0)), (238, 2, .iload 17, (0, 0, 0, 0, 0, 0)), (240, 2, .iload 13, (0, 0, 0, 0, 0, 0)), (242, 3, .invokevirtual 109, (85, 0, 2, 1, 3, 5)), (245, 2, .istore 19, (0, 0, 0, 0, 0, 0)), (247, 1, .aload_n 1, (0, 0, 0, 0, 0, 0)),
  (248, 2, .iload 17, (0, 0, 0, 0, 0, 0)), (250, 1, .iconst 4, (0, 0, 0, 0, 0, 0)), (251, 3, .invokestatic 99, (138, 2, 3, 1, 3, 0)), (254, 3, .ifCond .lt 26, (280, 0, 0, 0, 0, 0)), (257, 2, .iload 13, (0, 0, 0, 0, 0, 0)), (259, 3, .ifCond .eq 17, (276, 0, 0, 0, 0, 0))]
def z_L_law_6 : List zI := [
  (262, 1, .aload_n 1, (0, 0, 0, 0, 0, 0)), (263, 2, .iload 17, (0, 0, 0, 0, 0, 0)), (265, 1, .iconst 2, (0, 0, 0, 0, 0, 0)), (266, 3, .invokestatic 99, (138, 2, 3, 1, 3, 0)), (269, 2, .iload 13, (0, 0, 0, 0, 0, 0)), (271, 1, .iconst 1, (0, 0, 0, 0, 0, 0)),
  (272, 1, .isub, (0, 0, 0, 0, 0, 0)), (273, 3, .if_icmp .eq 7, (280, 0, 0, 0, 0, 0)), (276, 1, .iconst 1, (0, 0, 0, 0, 0, 0)), (277, 3, .goto 4, (281, 0, 0, 0, 0, 0)), (280, 1, .iconst 0, (0, 0, 0, 0, 0, 0)), (281, 2, .istore 20, (0, 0, 0, 0, 0, 0)),
  (283, 2, .iload 16, (0, 0, 0, 0, 0, 0)), (285, 2, .iload 20, (0, 0, 0, 0, 0, 0)), (287, 3, .ifCond .eq 7, (294, 0, 0, 0, 0, 0)), (290, 1, .iconst 1, (0, 0, 0, 0, 0, 0)), (291, 3, .goto 4, (295, 0, 0, 0, 0, 0)), (294, 1, .iconst 0, (0, 0, 0, 0, 0, 0)),
  (295, 1, .iadd, (0, 0, 0, 0, 0, 0)), (296, 2, .istore 16, (0, 0, 0, 0, 0, 0)), (298, 2, .iload 14, (0, 0, 0, 0, 0, 0)), (300, 2, .iload 19, (0, 0, 0, 0, 0, 0)), (302, 1, .iadd, (0, 0, 0, 0, 0, 0)), (303, 2, .istore 14, (0, 0, 0, 0, 0, 0)),
  (305, 2, .iload 20, (0, 0, 0, 0, 0, 0)), (307, 3, .ifCond .eq 15, (322, 0, 0, 0, 0, 0)), (310, 2, .iload 19, (0, 0, 0, 0, 0, 0)), (312, 2, .iload 15, (0, 0, 0, 0, 0, 0)), (314, 3, .if_icmp .le 8, (322, 0, 0, 0, 0, 0)), (317, 2, .iload 19, (0, 0, 0, 0, 0, 0)),
  (319, 3, .goto 5, (324, 0, 0, 0, 0, 0)), (322, 2, .iload 15, (0, 0, 0, 0, 0, 0)), (324, 2, .istore 15, (0, 0, 0, 0, 0, 0)), (326, 2, .iload 19, (0, 0, 0, 0, 0, 0)), (328, 3, .ifCond .lt 38, (366, 0, 0, 0, 0, 0)), (331, 2, .iload 20, (0, 0, 0, 0, 0, 0)),
  (333, 3, .ifCond .ne 8, (341, 0, 0, 0, 0, 0)), (336, 2, .iload 19, (0, 0, 0, 0, 0, 0)), (338, 3, .ifCond .ne 28, (366, 0, 0, 0, 0, 0)), (341, 2, .iload 18, (0, 0, 0, 0, 0, 0)), (343, 3, .ifCond .lt 23, (366, 0, 0, 0, 0, 0)), (346, 2, .iload 18, (0, 0, 0, 0, 0, 0)),
  (348, 3, .invokestatic 71, (135, 2, 1, 1, 3, 0)), (351, 1, .iconst 2, (0, 0, 0, 0, 0, 0)), (352, 3, .if_icmp .gt 14, (366, 0, 0, 0, 0, 0)), (355, 2, .iload 18, (0, 0, 0, 0, 0, 0)), (357, 2, .iload 17, (0, 0, 0, 0, 0, 0)), (359, 1, .ishr, (0, 0, 0, 0, 0, 0))]
def z_L_law_7 : List zI := [
  (360, 1, .iconst 1, (0, 0, 0, 0, 0, 0)), (361, 1, .iand, (0, 0, 0, 0, 0, 0)), (362, 1, .iconst 1, (0, 0, 0, 0, 0, 0)), (363, 3, .if_icmp .ne 5, (368, 0, 0, 0, 0, 0)), (366, 1, .iconst 0, (0, 0, 0, 0, 0, 0)), (367, 1, .ireturn, (1, 0, 0, 0, 0, 0)),
  (368, 1, .iconst 0, (0, 0, 0, 0, 0, 0)), (369, 2, .istore 21, (0, 0, 0, 0, 0, 0)), (371, 2, .iload 21, (0, 0, 0, 0, 0, 0)), (373, 2, .iload 4, (0, 0, 0, 0, 0, 0)), (375, 3, .if_icmp .ge 96, (471, 0, 0, 0, 0, 0)), (378, 2, .iload 20, (0, 0, 0, 0, 0, 0)),
  (380, 3, .ifCond .eq 91, (471, 0, 0, 0, 0, 0)), (383, 1, .aload_n 1, (0, 0, 0, 0, 0, 0)), (384, 2, .iload 21, (0, 0, 0, 0, 0, 0)), (386, 1, .iconst 4, (0, 0, 0, 0, 0, 0)), (387, 3, .invokestatic 99, (138, 2, 3, 1, 3, 0)), (390, 3, .ifCond .lt 26, (416, 0, 0, 0, 0, 0)),
  (393, 2, .iload 13, (0, 0, 0, 0, 0, 0)), (395, 3, .ifCond .eq 17, (412, 0, 0, 0, 0, 0)), (398, 1, .aload_n 1, (0, 0, 0, 0, 0, 0)), (399, 2, .iload 21, (0, 0, 0, 0, 0, 0)), (401, 1, .iconst 2, (0, 0, 0, 0, 0, 0)), (402, 3, .invokestatic 99, (138, 2, 3, 1, 3, 0)),
  (405, 2, .iload 13, (0, 0, 0, 0, 0, 0)), (407, 1, .iconst 1, (0, 0, 0, 0, 0, 0)), (408, 1, .isub, (0, 0, 0, 0, 0, 0)), (409, 3, .if_icmp .eq 7, (416, 0, 0, 0, 0, 0)), (412, 1, .iconst 1, (0, 0, 0, 0, 0, 0)), (413, 3, .goto 4, (417, 0, 0, 0, 0, 0)),
  (416, 1, .iconst 0, (0, 0, 0, 0, 0, 0)), (417, 2, .istore 22, (0, 0, 0, 0, 0, 0)), (419, 2, .iload 18, (0, 0, 0, 0, 0, 0)), (421, 2, .iload 21, (0, 0, 0, 0, 0, 0)), (423, 1, .ishr, (0, 0, 0, 0, 0, 0)), (424, 1, .iconst 1, (0, 0, 0, 0, 0, 0)),
  (425, 1, .iand, (0, 0, 0, 0, 0, 0)), (426, 1, .iconst 1, (0, 0, 0, 0, 0, 0)), (427, 3, .if_icmp .ne 8, (435, 0, 0, 0, 0, 0)), (430, 2, .iload 22, (0, 0, 0, 0, 0, 0)), (432, 3, .ifCond .eq 31, (463, 0, 0, 0, 0, 0)), (435, 2, .iload 22, (0, 0, 0, 0, 0, 0)),
  (437, 3, .ifCond .eq 28, (465, 0, 0, 0, 0, 0)), (440, 2, .iload 18, (0, 0, 0, 0, 0, 0)), (442, 2, .iload 21, (0, 0, 0, 0, 0, 0)), (444, 1, .ishr, (0, 0, 0, 0, 0, 0)), (445, 1, .iconst 1, (0, 0, 0, 0, 0, 0)), (446, 1, .iand, (0, 0, 0, 0, 0, 0))]
def z_L_law_8 : List zI := [
  (447, 1, .aload_n 1, (0, 0, 0, 0, 0, 0)), (448, 2, .iload 21, (0, 0, 0, 0, 0, 0)), (450, 2, .iload 13, (0, 0, 0, 0, 0, 0)), (452, 3, .invokevirtual 106, (84, 0, 2, 1, 3, 5)), (455, 2, .iload 17, (0, 0, 0, 0, 0, 0)), (457, 1, .ishr, (0, 0, 0, 0, 0, 0)),
  (458, 1, .iconst 1, (0, 0, 0, 0, 0, 0)), (459, 1, .iand, (0, 0, 0, 0, 0, 0)), (460, 3, .if_icmp .eq 5, (465, 0, 0, 0, 0, 0)), (463, 1, .iconst 0, (0, 0, 0, 0, 0, 0)), (464, 1, .ireturn, (1, 0, 0, 0, 0, 0)), (465, 3, .iinc 21 1, (0, 0, 0, 0, 0, 0)),
  (468, 3, .goto (-97), (371, 4194304, 0, 0, 0, 0)), (471, 1, .aload_n 1, (0, 0, 0, 0, 0, 0)), (472, 2, .iload 17, (0, 0, 0, 0, 0, 0)), (474, 2, .iload 13, (0, 0, 0, 0, 0, 0)), (476, 3, .invokevirtual 111, (88, 0, 2, 1, 8, 5)), (479, 2, .istore 21, (0, 0, 0, 0, 0, 0)),
  (481, 1, .aload_n 1, (0, 0, 0, 0, 0, 0)), (482, 3, .invokevirtual 77, (101, 0, 0, 1, 1, 5)), (485, 2, .istore 22, (0, 0, 0, 0, 0, 0)), (487, 2, .iload 21, (0, 0, 0, 0, 0, 0)), (489, 3, .ifCond .lt 7, (496, 0, 0, 0, 0, 0)), (492, 1, .iconst 1, (0, 0, 0, 0, 0, 0)),
  (493, 3, .goto 4, (497, 0, 0, 0, 0, 0)), (496, 1, .iconst 0, (0, 0, 0, 0, 0, 0)), (497, 2, .iload 20, (0, 0, 0, 0, 0, 0)), (499, 3, .ifCond .eq 12, (511, 0, 0, 0, 0, 0)), (502, 2, .iload 18, (0, 0, 0, 0, 0, 0)), (504, 3, .ifCond .eq 7, (511, 0, 0, 0, 0, 0)),
  (507, 1, .iconst 1, (0, 0, 0, 0, 0, 0)), (508, 3, .goto 4, (512, 0, 0, 0, 0, 0)), (511, 1, .iconst 0, (0, 0, 0, 0, 0, 0)), (512, 3, .if_icmp .eq 5, (517, 0, 0, 0, 0, 0)), (515, 1, .iconst 0, (0, 0, 0, 0, 0, 0)), (516, 1, .ireturn, (1, 0, 0, 0, 0, 0)),
  (517, 2, .iload 21, (0, 0, 0, 0, 0, 0)), (519, 3, .ifCond .lt 69, (588, 0, 0, 0, 0, 0)), (522, 2, .iload 18, (0, 0, 0, 0, 0, 0)), (524, 2, .iload 21, (0, 0, 0, 0, 0, 0)), (526, 1, .ishr, (0, 0, 0, 0, 0, 0)), (527, 1, .iconst 1, (0, 0, 0, 0, 0, 0)),
  (528, 1, .iand, (0, 0, 0, 0, 0, 0)), (529, 1, .iconst 1, (0, 0, 0, 0, 0, 0)), (530, 3, .if_icmp .ne 56, (586, 0, 0, 0, 0, 0)), (533, 2, .iload 22, (0, 0, 0, 0, 0, 0)), (535, 3, .ifCond .lt 51, (586, 0, 0, 0, 0, 0)), (538, 1, .aload_n 1, (0, 0, 0, 0, 0, 0))]
def z_L_law_9 : List zI := [
  (539, 2, .iload 21, (0, 0, 0, 0, 0, 0)), (541, 3, .invokevirtual 65, (77, 0, 1, 1, 3, 5)), (544, 3, .ifCond .lt 42, (586, 0, 0, 0, 0, 0)), (547, 1, .aload_n 1, (0, 0, 0, 0, 0, 0)), (548, 2, .iload 17, (0, 0, 0, 0, 0, 0)), (550, 2, .iload 13, (0, 0, 0, 0, 0, 0)),
  (552, 3, .invokevirtual 109, (85, 0, 2, 1, 3, 5)), (555, 2, .iload 19, (0, 0, 0, 0, 0, 0)), (557, 2, .iload 22, (0, 0, 0, 0, 0, 0)), (559, 1, .isub, (0, 0, 0, 0, 0, 0)), (560, 3, .if_icmp .ne 26, (586, 0, 0, 0, 0, 0)), (563, 1, .aload_n 1, (0, 0, 0, 0, 0, 0)),
  (564, 2, .iload 10, (0, 0, 0, 0, 0, 0)), (566, 3, .invokevirtual 114, (81, 0, 1, 1, 3, 5)), (569, 1, .iconst 1, (0, 0, 0, 0, 0, 0)), (570, 3, .if_icmp .ne 16, (586, 0, 0, 0, 0, 0)), (573, 1, .aload_n 1, (0, 0, 0, 0, 0, 0)), (574, 2, .iload 17, (0, 0, 0, 0, 0, 0)),
  (576, 2, .iload 13, (0, 0, 0, 0, 0, 0)), (578, 3, .invokevirtual 109, (85, 0, 2, 1, 3, 5)), (581, 2, .iload 19, (0, 0, 0, 0, 0, 0)), (583, 3, .if_icmp .eq 5, (588, 0, 0, 0, 0, 0)), (586, 1, .iconst 0, (0, 0, 0, 0, 0, 0)), (587, 1, .ireturn, (1, 0, 0, 0, 0, 0)),
  (588, 1, .aload_n 1, (0, 0, 0, 0, 0, 0)), (589, 2, .iload 17, (0, 0, 0, 0, 0, 0)), (591, 2, .iload 13, (0, 0, 0, 0, 0, 0)), (593, 3, .invokevirtual 117, (96, 0, 2, 1, 7, 5)), (596, 2, .istore 23, (0, 0, 0, 0, 0, 0)), (598, 1, .aload_n 1, (0, 0, 0, 0, 0, 0)),
  (599, 3, .invokevirtual 77, (101, 0, 0, 1, 1, 5)), (602, 2, .istore 24, (0, 0, 0, 0, 0, 0)), (604, 1, .aload_n 1, (0, 0, 0, 0, 0, 0)), (605, 2, .iload 13, (0, 0, 0, 0, 0, 0)), (607, 3, .invokevirtual 120, (86, 0, 1, 1, 2, 5)), (610, 2, .istore 25, (0, 0, 0, 0, 0, 0)),
  (612, 2, .iload 23, (0, 0, 0, 0, 0, 0)), (614, 1, .iconst 1, (0, 0, 0, 0, 0, 0)), (615, 3, .if_icmp .lt 81, (696, 0, 0, 0, 0, 0)), (618, 2, .iload 23, (0, 0, 0, 0, 0, 0)), (620, 2, .bipush 9, (0, 0, 0, 0, 0, 0)), (622, 3, .if_icmp .gt 74, (696, 0, 0, 0, 0, 0)),
  (625, 2, .iload 24, (0, 0, 0, 0, 0, 0)), (627, 2, .iload 25, (0, 0, 0, 0, 0, 0)), (629, 3, .if_icmp .gt 67, (696, 0, 0, 0, 0, 0)), (632, 2, .iload 23, (0, 0, 0, 0, 0, 0)), (634, 1, .aload_n 1, (0, 0, 0, 0, 0, 0)), (635, 2, .iload 17, (0, 0, 0, 0, 0, 0))]
def z_L_law_10 : List zI := [
  (637, 1, .iconst 1, (0, 0, 0, 0, 0, 0)), (638, 3, .invokestatic 99, (138, 2, 3, 1, 3, 0)), (641, 3, .if_icmp .eq 36, (677, 0, 0, 0, 0, 0)), (644, 1, .aload_n 1, (0, 0, 0, 0, 0, 0)), (645, 2, .iload 17, (0, 0, 0, 0, 0, 0)), (647, 2, .iload 23, (0, 0, 0, 0, 0, 0)),
  (649, 3, .invokevirtual 68, (79, 0, 2, 1, 4, 5)), (652, 1, .iconst 1, (0, 0, 0, 0, 0, 0)), (653, 3, .if_icmp .lt 43, (696, 0, 0, 0, 0, 0)), (656, 1, .aload_n 1, (0, 0, 0, 0, 0, 0)), (657, 2, .iload 13, (0, 0, 0, 0, 0, 0)), (659, 3, .invokevirtual 120, (86, 0, 1, 1, 2, 5)),
  (662, 2, .iload 24, (0, 0, 0, 0, 0, 0)), (664, 3, .if_icmp .ne 32, (696, 0, 0, 0, 0, 0)), (667, 1, .aload_n 1, (0, 0, 0, 0, 0, 0)), (668, 2, .iload 10, (0, 0, 0, 0, 0, 0)), (670, 3, .invokevirtual 114, (81, 0, 1, 1, 3, 5)), (673, 1, .iconst 1, (0, 0, 0, 0, 0, 0)),
  (674, 3, .if_icmp .ne 22, (696, 0, 0, 0, 0, 0)), (677, 2, .iload 23, (0, 0, 0, 0, 0, 0)), (679, 1, .aload_n 1, (0, 0, 0, 0, 0, 0)), (680, 2, .iload 17, (0, 0, 0, 0, 0, 0)), (682, 1, .iconst 1, (0, 0, 0, 0, 0, 0)), (683, 3, .invokestatic 99, (138, 2, 3, 1, 3, 0)),
  (686, 3, .if_icmp .ne 12, (698, 0, 0, 0, 0, 0)), (689, 2, .iload 24, (0, 0, 0, 0, 0, 0)), (691, 2, .iload 25, (0, 0, 0, 0, 0, 0)), (693, 3, .if_icmp .eq 5, (698, 0, 0, 0, 0, 0)), (696, 1, .iconst 0, (0, 0, 0, 0, 0, 0)), (697, 1, .ireturn, (1, 0, 0, 0, 0, 0)),
  (698, 3, .iinc 17 1, (0, 0, 0, 0, 0, 0)), (701, 3, .goto (-481), (220, 66846720, 0, 0, 0, 0)), (704, 1, .aload_n 1, (0, 0, 0, 0, 0, 0)), (705, 2, .iload 13, (0, 0, 0, 0, 0, 0)), (707, 3, .invokevirtual 120, (86, 0, 1, 1, 2, 5)), (710, 2, .iload 14, (0, 0, 0, 0, 0, 0)),
  (712, 3, .if_icmp .ne 12, (724, 0, 0, 0, 0, 0)), (715, 1, .aload_n 1, (0, 0, 0, 0, 0, 0)), (716, 3, .invokevirtual 77, (101, 0, 0, 1, 1, 5)), (719, 2, .iload 16, (0, 0, 0, 0, 0, 0)), (721, 3, .if_icmp .eq 5, (726, 0, 0, 0, 0, 0)), (724, 1, .iconst 0, (0, 0, 0, 0, 0, 0)),
  (725, 1, .ireturn, (1, 0, 0, 0, 0, 0)), (726, 1, .aload_n 1, (0, 0, 0, 0, 0, 0)), (727, 2, .iload 13, (0, 0, 0, 0, 0, 0)), (729, 3, .invokevirtual 123, (87, 0, 1, 1, 6, 5)), (732, 2, .istore 17, (0, 0, 0, 0, 0, 0)), (734, 1, .aload_n 1, (0, 0, 0, 0, 0, 0))]
def z_L_law_11 : List zI := [
  (735, 3, .invokevirtual 77, (101, 0, 0, 1, 1, 5)), (738, 2, .istore 18, (0, 0, 0, 0, 0, 0)), (740, 2, .iload 17, (0, 0, 0, 0, 0, 0)), (742, 3, .ifCond .lt 7, (749, 0, 0, 0, 0, 0)), (745, 1, .iconst 1, (0, 0, 0, 0, 0, 0)), (746, 3, .goto 4, (750, 0, 0, 0, 0, 0)),
  (749, 1, .iconst 0, (0, 0, 0, 0, 0, 0)), (750, 2, .iload 16, (0, 0, 0, 0, 0, 0)), (752, 3, .ifCond .le 7, (759, 0, 0, 0, 0, 0)), (755, 1, .iconst 1, (0, 0, 0, 0, 0, 0)), (756, 3, .goto 4, (760, 0, 0, 0, 0, 0)), (759, 1, .iconst 0, (0, 0, 0, 0, 0, 0)),
  (760, 3, .if_icmp .ne 28, (788, 0, 0, 0, 0, 0)), (763, 2, .iload 17, (0, 0, 0, 0, 0, 0)), (765, 3, .ifCond .lt 25, (790, 0, 0, 0, 0, 0)), (768, 2, .iload 18, (0, 0, 0, 0, 0, 0)), (770, 2, .iload 15, (0, 0, 0, 0, 0, 0)), (772, 3, .if_icmp .ne 16, (788, 0, 0, 0, 0, 0)),
  (775, 1, .aload_n 1, (0, 0, 0, 0, 0, 0)), (776, 2, .iload 17, (0, 0, 0, 0, 0, 0)), (778, 2, .iload 13, (0, 0, 0, 0, 0, 0)), (780, 3, .invokevirtual 109, (85, 0, 2, 1, 3, 5)), (783, 2, .iload 15, (0, 0, 0, 0, 0, 0)), (785, 3, .if_icmp .eq 5, (790, 0, 0, 0, 0, 0)),
  (788, 1, .iconst 0, (0, 0, 0, 0, 0, 0)), (789, 1, .ireturn, (1, 0, 0, 0, 0, 0)), (790, 1, .aload_n 1, (0, 0, 0, 0, 0, 0)), (791, 2, .iload 13, (0, 0, 0, 0, 0, 0)), (793, 3, .invokevirtual 126, (94, 0, 1, 1, 3, 5)), (796, 2, .istore 19, (0, 0, 0, 0, 0, 0)),
  (798, 1, .aload_n 1, (0, 0, 0, 0, 0, 0)), (799, 3, .invokevirtual 77, (101, 0, 0, 1, 1, 5)), (802, 2, .istore 20, (0, 0, 0, 0, 0, 0)), (804, 2, .iload 19, (0, 0, 0, 0, 0, 0)), (806, 2, .iload 20, (0, 0, 0, 0, 0, 0)), (808, 3, .ifCond .ge 7, (815, 0, 0, 0, 0, 0)),
  (811, 1, .iconst 1, (0, 0, 0, 0, 0, 0)), (812, 3, .goto 4, (816, 0, 0, 0, 0, 0)), (815, 1, .iconst 0, (0, 0, 0, 0, 0, 0)), (816, 3, .if_icmp .ne 43, (859, 0, 0, 0, 0, 0)), (819, 2, .iload 20, (0, 0, 0, 0, 0, 0)), (821, 3, .ifCond .lt 40, (861, 0, 0, 0, 0, 0)),
  (824, 1, .aload_n 1, (0, 0, 0, 0, 0, 0)), (825, 2, .iload 20, (0, 0, 0, 0, 0, 0)), (827, 2, .bipush 6, (0, 0, 0, 0, 0, 0)), (829, 1, .idiv, (0, 0, 0, 0, 0, 0)), (830, 2, .iload 20, (0, 0, 0, 0, 0, 0)), (832, 2, .bipush 6, (0, 0, 0, 0, 0, 0))]
def z_L_law_12 : List zI := [
  (834, 1, .irem, (0, 0, 0, 0, 0, 0)), (835, 2, .iload 13, (0, 0, 0, 0, 0, 0)), (837, 3, .invokevirtual 129, (93, 0, 3, 1, 4, 5)), (840, 3, .sipush (-900), (0, 0, 0, 0, 0, 0)), (843, 3, .if_icmp .lt 16, (859, 0, 0, 0, 0, 0)), (846, 2, .iload 20, (0, 0, 0, 0, 0, 0)),
  (848, 2, .bipush 6, (0, 0, 0, 0, 0, 0)), (850, 1, .idiv, (0, 0, 0, 0, 0, 0)), (851, 2, .iload 20, (0, 0, 0, 0, 0, 0)), (853, 2, .bipush 6, (0, 0, 0, 0, 0, 0)), (855, 1, .irem, (0, 0, 0, 0, 0, 0)), (856, 3, .if_icmp .lt 5, (861, 0, 0, 0, 0, 0)),
  (859, 1, .iconst 0, (0, 0, 0, 0, 0, 0)), (860, 1, .ireturn, (1, 0, 0, 0, 0, 0)), (861, 1, .iconst 0, (0, 0, 0, 0, 0, 0)), (862, 2, .istore 21, (0, 0, 0, 0, 0, 0)), (864, 2, .iload 21, (0, 0, 0, 0, 0, 0)), (866, 2, .iload 4, (0, 0, 0, 0, 0, 0)),
  (868, 3, .if_icmp .ge 314, (1182, 0, 0, 0, 0, 0)), (871, 2, .iload 21, (0, 0, 0, 0, 0, 0)), (873, 1, .iconst 1, (0, 0, 0, 0, 0, 0)), (874, 1, .iadd, (0, 0, 0, 0, 0, 0)), (875, 2, .istore 22, (0, 0, 0, 0, 0, 0)), (877, 2, .iload 22, (0, 0, 0, 0, 0, 0)),
  (879, 2, .iload 4, (0, 0, 0, 0, 0, 0)), (881, 3, .if_icmp .ge 295, (1176, 0, 0, 0, 0, 0)), (884, 1, .aload_n 1, (0, 0, 0, 0, 0, 0)), (885, 2, .iload 21, (0, 0, 0, 0, 0, 0)), (887, 2, .iload 22, (0, 0, 0, 0, 0, 0)), (889, 2, .iload 13, (0, 0, 0, 0, 0, 0)),
  (891, 3, .invokevirtual 129, (93, 0, 3, 1, 4, 5)), (894, 2, .istore 23, (0, 0, 0, 0, 0, 0)), (896, 1, .aload_n 1, (0, 0, 0, 0, 0, 0)), (897, 2, .iload 21, (0, 0, 0, 0, 0, 0)), (899, 2, .iload 13, (0, 0, 0, 0, 0, 0)), (901, 3, .invokevirtual 109, (85, 0, 2, 1, 3, 5)),
  (904, 2, .istore 24, (0, 0, 0, 0, 0, 0)), (906, 1, .aload_n 1, (0, 0, 0, 0, 0, 0)), (907, 2, .iload 22, (0, 0, 0, 0, 0, 0)), (909, 2, .iload 13, (0, 0, 0, 0, 0, 0)), (911, 3, .invokevirtual 109, (85, 0, 2, 1, 3, 5)), (914, 2, .istore 25, (0, 0, 0, 0, 0, 0)),
  (916, 1, .aload_n 1, (0, 0, 0, 0, 0, 0)), (917, 2, .iload 21, (0, 0, 0, 0, 0, 0)), (919, 1, .iconst 4, (0, 0, 0, 0, 0, 0)), (920, 3, .invokestatic 99, (138, 2, 3, 1, 3, 0)), (923, 3, .ifCond .ge 13, (936, 0, 0, 0, 0, 0)), (926, 1, .aload_n 1, (0, 0, 0, 0, 0, 0))]
def z_L_law_13 : List zI := [
  (927, 2, .iload 22, (0, 0, 0, 0, 0, 0)), (929, 1, .iconst 4, (0, 0, 0, 0, 0, 0)), (930, 3, .invokestatic 99, (138, 2, 3, 1, 3, 0)), (933, 3, .ifCond .lt 7, (940, 0, 0, 0, 0, 0)), (936, 1, .iconst 1, (0, 0, 0, 0, 0, 0)), (937, 3, .goto 4, (941, 0, 0, 0, 0, 0)),
  (940, 1, .iconst 0, (0, 0, 0, 0, 0, 0)), (941, 2, .istore 26, (0, 0, 0, 0, 0, 0)), (943, 1, .aload_n 1, (0, 0, 0, 0, 0, 0)), (944, 2, .iload 21, (0, 0, 0, 0, 0, 0)), (946, 1, .iconst 4, (0, 0, 0, 0, 0, 0)), (947, 3, .invokestatic 99, (138, 2, 3, 1, 3, 0)),
  (950, 3, .ifCond .lt 50, (1000, 0, 0, 0, 0, 0)), (953, 1, .aload_n 1, (0, 0, 0, 0, 0, 0)), (954, 2, .iload 22, (0, 0, 0, 0, 0, 0)), (956, 1, .iconst 4, (0, 0, 0, 0, 0, 0)), (957, 3, .invokestatic 99, (138, 2, 3, 1, 3, 0)), (960, 3, .ifCond .lt 40, (1000, 0, 0, 0, 0, 0)),
  (963, 2, .iload 13, (0, 0, 0, 0, 0, 0)), (965, 3, .ifCond .eq 31, (996, 0, 0, 0, 0, 0)), (968, 1, .aload_n 1, (0, 0, 0, 0, 0, 0)), (969, 2, .iload 21, (0, 0, 0, 0, 0, 0)), (971, 1, .iconst 2, (0, 0, 0, 0, 0, 0)), (972, 3, .invokestatic 99, (138, 2, 3, 1, 3, 0)),
  (975, 2, .iload 13, (0, 0, 0, 0, 0, 0)), (977, 1, .iconst 1, (0, 0, 0, 0, 0, 0)), (978, 1, .isub, (0, 0, 0, 0, 0, 0)), (979, 3, .if_icmp .eq 21, (1000, 0, 0, 0, 0, 0)), (982, 1, .aload_n 1, (0, 0, 0, 0, 0, 0)), (983, 2, .iload 22, (0, 0, 0, 0, 0, 0)),
  (985, 1, .iconst 2, (0, 0, 0, 0, 0, 0)), (986, 3, .invokestatic 99, (138, 2, 3, 1, 3, 0)), (989, 2, .iload 13, (0, 0, 0, 0, 0, 0)), (991, 1, .iconst 1, (0, 0, 0, 0, 0, 0)), (992, 1, .isub, (0, 0, 0, 0, 0, 0)), (993, 3, .if_icmp .eq 7, (1000, 0, 0, 0, 0, 0)),
  (996, 1, .iconst 1, (0, 0, 0, 0, 0, 0)), (997, 3, .goto 4, (1001, 0, 0, 0, 0, 0)), (1000, 1, .iconst 0, (0, 0, 0, 0, 0, 0)), (1001, 2, .istore 27, (0, 0, 0, 0, 0, 0)), (1003, 2, .iload 23, (0, 0, 0, 0, 0, 0)), (1005, 1, .aload_n 1, (0, 0, 0, 0, 0, 0)),
  (1006, 2, .iload 22, (0, 0, 0, 0, 0, 0)), (1008, 2, .iload 21, (0, 0, 0, 0, 0, 0)), (1010, 2, .iload 13, (0, 0, 0, 0, 0, 0)), (1012, 3, .invokevirtual 129, (93, 0, 3, 1, 4, 5)), (1015, 3, .if_icmp .ne 15, (1030, 0, 0, 0, 0, 0)), (1018, 2, .iload 26, (0, 0, 0, 0, 0, 0))]
def z_L_law_14 : List zI := [
  (1020, 3, .ifCond .ne 12, (1032, 0, 0, 0, 0, 0)), (1023, 2, .iload 23, (0, 0, 0, 0, 0, 0)), (1025, 2, .bipush 100, (0, 0, 0, 0, 0, 0)), (1027, 3, .if_icmp .eq 5, (1032, 0, 0, 0, 0, 0)), (1030, 1, .iconst 0, (0, 0, 0, 0, 0, 0)), (1031, 1, .ireturn, (1, 0, 0, 0, 0, 0)),
  (1032, 2, .iload 26, (0, 0, 0, 0, 0, 0)), (1034, 3, .ifCond .eq 34, (1068, 0, 0, 0, 0, 0)), (1037, 1, .aload_n 1, (0, 0, 0, 0, 0, 0)), (1038, 2, .iload 21, (0, 0, 0, 0, 0, 0)), (1040, 2, .iload 22, (0, 0, 0, 0, 0, 0)), (1042, 3, .invokevirtual 62, (78, 0, 2, 1, 3, 5)),
  (1045, 1, .iconst 1, (0, 0, 0, 0, 0, 0)), (1046, 3, .if_icmp .ne 20, (1066, 0, 0, 0, 0, 0)), (1049, 1, .aload_n 1, (0, 0, 0, 0, 0, 0)), (1050, 2, .iload 13, (0, 0, 0, 0, 0, 0)), (1052, 3, .invokevirtual 120, (86, 0, 1, 1, 2, 5)), (1055, 2, .iload 14, (0, 0, 0, 0, 0, 0)),
  (1057, 2, .bipush 100, (0, 0, 0, 0, 0, 0)), (1059, 1, .iadd, (0, 0, 0, 0, 0, 0)), (1060, 2, .iload 23, (0, 0, 0, 0, 0, 0)), (1062, 1, .isub, (0, 0, 0, 0, 0, 0)), (1063, 3, .if_icmp .eq 5, (1068, 0, 0, 0, 0, 0)), (1066, 1, .iconst 0, (0, 0, 0, 0, 0, 0)),
  (1067, 1, .ireturn, (1, 0, 0, 0, 0, 0)), (1068, 2, .iload 26, (0, 0, 0, 0, 0, 0)), (1070, 3, .ifCond .eq 38, (1108, 0, 0, 0, 0, 0)), (1073, 2, .iload 27, (0, 0, 0, 0, 0, 0)), (1075, 3, .ifCond .eq 33, (1108, 0, 0, 0, 0, 0)), (1078, 1, .aload_n 1, (0, 0, 0, 0, 0, 0)),
  (1079, 2, .iload 21, (0, 0, 0, 0, 0, 0)), (1081, 2, .iload 13, (0, 0, 0, 0, 0, 0)), (1083, 3, .invokevirtual 109, (85, 0, 2, 1, 3, 5)), (1086, 2, .iload 24, (0, 0, 0, 0, 0, 0)), (1088, 3, .if_icmp .ge 20, (1108, 0, 0, 0, 0, 0)), (1091, 1, .aload_n 1, (0, 0, 0, 0, 0, 0)),
  (1092, 2, .iload 22, (0, 0, 0, 0, 0, 0)), (1094, 2, .iload 13, (0, 0, 0, 0, 0, 0)), (1096, 3, .invokevirtual 109, (85, 0, 2, 1, 3, 5)), (1099, 2, .iload 25, (0, 0, 0, 0, 0, 0)), (1101, 3, .if_icmp .ge 7, (1108, 0, 0, 0, 0, 0)), (1104, 1, .iconst 1, (0, 0, 0, 0, 0, 0)),
  (1105, 3, .goto 4, (1109, 0, 0, 0, 0, 0)), (1108, 1, .iconst 0, (0, 0, 0, 0, 0, 0)), (1109, 2, .istore 28, (0, 0, 0, 0, 0, 0)), (1111, 2, .iload 26, (0, 0, 0, 0, 0, 0)), (1113, 3, .ifCond .eq 13, (1126, 0, 0, 0, 0, 0)), (1116, 1, .aload_n 1, (0, 0, 0, 0, 0, 0))]
def z_L_law_15 : List zI := [
  (1117, 2, .iload 10, (0, 0, 0, 0, 0, 0)), (1119, 3, .invokevirtual 114, (81, 0, 1, 1, 3, 5)), (1122, 1, .iconst 1, (0, 0, 0, 0, 0, 0)), (1123, 3, .if_icmp .ne 45, (1168, 0, 0, 0, 0, 0)), (1126, 2, .iload 28, (0, 0, 0, 0, 0, 0)), (1128, 3, .ifCond .eq 22, (1150, 0, 0, 0, 0, 0)),
  (1131, 2, .iload 19, (0, 0, 0, 0, 0, 0)), (1133, 1, .iconst 1, (0, 0, 0, 0, 0, 0)), (1134, 3, .if_icmp .eq 34, (1168, 0, 0, 0, 0, 0)), (1137, 2, .iload 20, (0, 0, 0, 0, 0, 0)), (1139, 2, .bipush 6, (0, 0, 0, 0, 0, 0)), (1141, 2, .iload 21, (0, 0, 0, 0, 0, 0)),
  (1143, 1, .imul, (0, 0, 0, 0, 0, 0)), (1144, 2, .iload 22, (0, 0, 0, 0, 0, 0)), (1146, 1, .iadd, (0, 0, 0, 0, 0, 0)), (1147, 3, .if_icmp .gt 21, (1168, 0, 0, 0, 0, 0)), (1150, 2, .iload 20, (0, 0, 0, 0, 0, 0)), (1152, 2, .bipush 6, (0, 0, 0, 0, 0, 0)),
  (1154, 2, .iload 21, (0, 0, 0, 0, 0, 0)), (1156, 1, .imul, (0, 0, 0, 0, 0, 0)), (1157, 2, .iload 22, (0, 0, 0, 0, 0, 0)), (1159, 1, .iadd, (0, 0, 0, 0, 0, 0)), (1160, 3, .if_icmp .ne 10, (1170, 0, 0, 0, 0, 0)), (1163, 2, .iload 28, (0, 0, 0, 0, 0, 0)),
  (1165, 3, .ifCond .ne 5, (1170, 0, 0, 0, 0, 0)), (1168, 1, .iconst 0, (0, 0, 0, 0, 0, 0)), (1169, 1, .ireturn, (1, 0, 0, 0, 0, 0)), (1170, 3, .iinc 22 1, (0, 0, 0, 0, 0, 0)), (1173, 3, .goto (-296), (877, 528482304, 0, 0, 0, 0)), (1176, 3, .iinc 21 1, (0, 0, 0, 0, 0, 0)),
  (1179, 3, .goto (-315), (864, 4194304, 0, 0, 0, 0)), (1182, 1, .aload_n 1, (0, 0, 0, 0, 0, 0)), (1183, 1, .iconst 4, (0, 0, 0, 0, 0, 0)), (1184, 3, .invokevirtual 103, (104, 0, 1, 1, 2, 5)), (1187, 2, .istore 21, (0, 0, 0, 0, 0, 0)), (1189, 1, .aload_n 1, (0, 0, 0, 0, 0, 0)),
  (1190, 2, .iload 13, (0, 0, 0, 0, 0, 0)), (1192, 3, .invokevirtual 132, (80, 0, 1, 1, 2, 5)), (1195, 2, .istore 22, (0, 0, 0, 0, 0, 0)), (1197, 2, .iload 22, (0, 0, 0, 0, 0, 0)), (1199, 3, .ifCond .lt 43, (1242, 0, 0, 0, 0, 0)), (1202, 2, .iload 22, (0, 0, 0, 0, 0, 0)),
  (1204, 2, .iload 14, (0, 0, 0, 0, 0, 0)), (1206, 3, .if_icmp .gt 36, (1242, 0, 0, 0, 0, 0)), (1209, 1, .aload_n 1, (0, 0, 0, 0, 0, 0)), (1210, 1, .iconst 4, (0, 0, 0, 0, 0, 0)), (1211, 3, .invokevirtual 103, (104, 0, 1, 1, 2, 5)), (1214, 2, .iload 21, (0, 0, 0, 0, 0, 0))]
def z_L_law_16 : List zI := [
  (1216, 2, .iload 22, (0, 0, 0, 0, 0, 0)), (1218, 1, .iadd, (0, 0, 0, 0, 0, 0)), (1219, 3, .if_icmp .ne 23, (1242, 0, 0, 0, 0, 0)), (1222, 1, .aload_n 1, (0, 0, 0, 0, 0, 0)), (1223, 2, .iload 10, (0, 0, 0, 0, 0, 0)), (1225, 3, .invokevirtual 114, (81, 0, 1, 1, 3, 5)),
  (1228, 1, .iconst 1, (0, 0, 0, 0, 0, 0)), (1229, 3, .if_icmp .ne 13, (1242, 0, 0, 0, 0, 0)), (1232, 1, .aload_n 1, (0, 0, 0, 0, 0, 0)), (1233, 3, .invokevirtual 85, (105, 0, 0, 2, 5, 5)), (1236, 2, .lload 11, (0, 0, 0, 0, 0, 0)), (1238, 1, .lcmp, (0, 0, 0, 0, 0, 0)),
  (1239, 3, .ifCond .eq 5, (1244, 0, 0, 0, 0, 0)), (1242, 1, .iconst 0, (0, 0, 0, 0, 0, 0)), (1243, 1, .ireturn, (1, 0, 0, 0, 0, 0)), (1244, 3, .iinc 13 1, (0, 0, 0, 0, 0, 0)), (1247, 3, .goto (-1045), (202, 8372224, 0, 0, 0, 0)), (1250, 2, .iload 8, (0, 0, 0, 0, 0, 0)),
  (1252, 2, .bipush 8, (0, 0, 0, 0, 0, 0)), (1254, 1, .ishr, (0, 0, 0, 0, 0, 0)), (1255, 1, .iconst 3, (0, 0, 0, 0, 0, 0)), (1256, 3, .invokestatic 15, (131, 2, 2, 1, 2, 0)), (1259, 2, .istore 13, (0, 0, 0, 0, 0, 0)), (1261, 1, .aload_n 1, (0, 0, 0, 0, 0, 0)),
  (1262, 2, .iload 13, (0, 0, 0, 0, 0, 0)), (1264, 1, .iconst 1, (0, 0, 0, 0, 0, 0)), (1265, 3, .invokevirtual 135, (89, 0, 2, 1, 3, 5)), (1268, 2, .istore 14, (0, 0, 0, 0, 0, 0)), (1270, 1, .aload_n 1, (0, 0, 0, 0, 0, 0)), (1271, 2, .iload 13, (0, 0, 0, 0, 0, 0)),
  (1273, 1, .iconst 2, (0, 0, 0, 0, 0, 0)), (1274, 3, .invokevirtual 138, (90, 0, 2, 1, 3, 5)), (1277, 2, .istore 15, (0, 0, 0, 0, 0, 0)), (1279, 1, .aload_n 1, (0, 0, 0, 0, 0, 0)), (1280, 1, .iconst 3, (0, 0, 0, 0, 0, 0)), (1281, 3, .invokevirtual 141, (91, 0, 1, 1, 2, 5)),
  (1284, 2, .istore 16, (0, 0, 0, 0, 0, 0)), (1286, 2, .iload 14, (0, 0, 0, 0, 0, 0)), (1288, 3, .ifCond .lt 91, (1379, 0, 0, 0, 0, 0)), (1291, 1, .aload_n 1, (0, 0, 0, 0, 0, 0)), (1292, 1, .iconst 1, (0, 0, 0, 0, 0, 0)), (1293, 2, .iload 13, (0, 0, 0, 0, 0, 0)),
  (1295, 3, .invokevirtual 144, (92, 0, 2, 1, 4, 5)), (1298, 2, .iload 14, (0, 0, 0, 0, 0, 0)), (1300, 3, .if_icmp .ne 79, (1379, 0, 0, 0, 0, 0)), (1303, 1, .aload_n 1, (0, 0, 0, 0, 0, 0)), (1304, 1, .iconst 2, (0, 0, 0, 0, 0, 0)), (1305, 2, .iload 13, (0, 0, 0, 0, 0, 0))]
def z_L_law_17 : List zI := [
  (1307, 3, .invokevirtual 144, (92, 0, 2, 1, 4, 5)), (1310, 2, .iload 14, (0, 0, 0, 0, 0, 0)), (1312, 3, .if_icmp .lt 67, (1379, 0, 0, 0, 0, 0)), (1315, 2, .iload 15, (0, 0, 0, 0, 0, 0)), (1317, 3, .ifCond .lt 62, (1379, 0, 0, 0, 0, 0)), (1320, 2, .iload 15, (0, 0, 0, 0, 0, 0)),
  (1322, 2, .iload 14, (0, 0, 0, 0, 0, 0)), (1324, 3, .if_icmp .gt 55, (1379, 0, 0, 0, 0, 0)), (1327, 1, .aload_n 1, (0, 0, 0, 0, 0, 0)), (1328, 1, .iconst 3, (0, 0, 0, 0, 0, 0)), (1329, 1, .iconst 1, (0, 0, 0, 0, 0, 0)), (1330, 3, .invokevirtual 144, (92, 0, 2, 1, 4, 5)),
  (1333, 1, .aload_n 1, (0, 0, 0, 0, 0, 0)), (1334, 1, .iconst 3, (0, 0, 0, 0, 0, 0)), (1335, 1, .iconst 2, (0, 0, 0, 0, 0, 0)), (1336, 3, .invokevirtual 144, (92, 0, 2, 1, 4, 5)), (1339, 1, .iadd, (0, 0, 0, 0, 0, 0)), (1340, 2, .iload 16, (0, 0, 0, 0, 0, 0)),
  (1342, 3, .if_icmp .ne 37, (1379, 0, 0, 0, 0, 0)), (1345, 2, .iload 9, (0, 0, 0, 0, 0, 0)), (1347, 2, .iload 4, (0, 0, 0, 0, 0, 0)), (1349, 3, .if_icmp .ne 32, (1381, 0, 0, 0, 0, 0)), (1352, 1, .aload_n 1, (0, 0, 0, 0, 0, 0)), (1353, 2, .iload 13, (0, 0, 0, 0, 0, 0)),
  (1355, 3, .invokevirtual 120, (86, 0, 1, 1, 2, 5)), (1358, 2, .iload 14, (0, 0, 0, 0, 0, 0)), (1360, 3, .if_icmp .lt 19, (1379, 0, 0, 0, 0, 0)), (1363, 1, .aload_n 1, (0, 0, 0, 0, 0, 0)), (1364, 1, .iconst 1, (0, 0, 0, 0, 0, 0)), (1365, 3, .invokevirtual 120, (86, 0, 1, 1, 2, 5)),
  (1368, 1, .aload_n 1, (0, 0, 0, 0, 0, 0)), (1369, 1, .iconst 2, (0, 0, 0, 0, 0, 0)), (1370, 3, .invokevirtual 120, (86, 0, 1, 1, 2, 5)), (1373, 1, .iadd, (0, 0, 0, 0, 0, 0)), (1374, 2, .iload 16, (0, 0, 0, 0, 0, 0)), (1376, 3, .if_icmp .ge 5, (1381, 0, 0, 0, 0, 0)),
  (1379, 1, .iconst 0, (0, 0, 0, 0, 0, 0)), (1380, 1, .ireturn, (1, 0, 0, 0, 0, 0)), (1381, 1, .aload_n 1, (0, 0, 0, 0, 0, 0)), (1382, 1, .iconst 1, (0, 0, 0, 0, 0, 0)), (1383, 1, .iconst 4, (0, 0, 0, 0, 0, 0)), (1384, 3, .invokevirtual 135, (89, 0, 2, 1, 3, 5)),
  (1387, 2, .istore 17, (0, 0, 0, 0, 0, 0)), (1389, 1, .aload_n 1, (0, 0, 0, 0, 0, 0)), (1390, 1, .iconst 2, (0, 0, 0, 0, 0, 0)), (1391, 1, .iconst 4, (0, 0, 0, 0, 0, 0)), (1392, 3, .invokevirtual 135, (89, 0, 2, 1, 3, 5)), (1395, 2, .istore 18, (0, 0, 0, 0, 0, 0))]
def z_L_law_18 : List zI := [
  (1397, 2, .iload 17, (0, 0, 0, 0, 0, 0)), (1399, 2, .iload 18, (0, 0, 0, 0, 0, 0)), (1401, 1, .iadd, (0, 0, 0, 0, 0, 0)), (1402, 2, .iload 16, (0, 0, 0, 0, 0, 0)), (1404, 3, .if_icmp .gt 26, (1430, 0, 0, 0, 0, 0)), (1407, 1, .aload_n 1, (0, 0, 0, 0, 0, 0)),
  (1408, 1, .iconst 1, (0, 0, 0, 0, 0, 0)), (1409, 1, .iconst 4, (0, 0, 0, 0, 0, 0)), (1410, 3, .invokevirtual 138, (90, 0, 2, 1, 3, 5)), (1413, 2, .iload 17, (0, 0, 0, 0, 0, 0)), (1415, 3, .if_icmp .gt 15, (1430, 0, 0, 0, 0, 0)), (1418, 1, .aload_n 1, (0, 0, 0, 0, 0, 0)),
  (1419, 1, .iconst 2, (0, 0, 0, 0, 0, 0)), (1420, 2, .iload 13, (0, 0, 0, 0, 0, 0)), (1422, 3, .invokevirtual 144, (92, 0, 2, 1, 4, 5)), (1425, 2, .iload 15, (0, 0, 0, 0, 0, 0)), (1427, 3, .if_icmp .ge 5, (1432, 0, 0, 0, 0, 0)), (1430, 1, .iconst 0, (0, 0, 0, 0, 0, 0)),
  (1431, 1, .ireturn, (1, 0, 0, 0, 0, 0)), (1432, 1, .aload_n 1, (0, 0, 0, 0, 0, 0)), (1433, 2, .iload 13, (0, 0, 0, 0, 0, 0)), (1435, 3, .invokevirtual 147, (99, 0, 1, 1, 5, 5)), (1438, 1, .iconst 1, (0, 0, 0, 0, 0, 0)), (1439, 3, .if_icmp .ne 28, (1467, 0, 0, 0, 0, 0)),
  (1442, 1, .aload_n 1, (0, 0, 0, 0, 0, 0)), (1443, 3, .invokevirtual 150, (102, 0, 0, 2, 1, 5)), (1446, 2, .iload 14, (0, 0, 0, 0, 0, 0)), (1448, 1, .i2l, (0, 0, 0, 0, 0, 0)), (1449, 1, .aload_n 1, (0, 0, 0, 0, 0, 0)), (1450, 3, .invokevirtual 153, (103, 0, 0, 2, 1, 5)),
  (1453, 1, .lmul, (0, 0, 0, 0, 0, 0)), (1454, 1, .lcmp, (0, 0, 0, 0, 0, 0)), (1455, 3, .ifCond .lt 12, (1467, 0, 0, 0, 0, 0)), (1458, 1, .aload_n 1, (0, 0, 0, 0, 0, 0)), (1459, 3, .invokevirtual 153, (103, 0, 0, 2, 1, 5)), (1462, 1, .lconst 1, (0, 0, 0, 0, 0, 0)),
  (1463, 1, .lcmp, (0, 0, 0, 0, 0, 0)), (1464, 3, .ifCond .ge 5, (1469, 0, 0, 0, 0, 0)), (1467, 1, .iconst 0, (0, 0, 0, 0, 0, 0)), (1468, 1, .ireturn, (1, 0, 0, 0, 0, 0)), (1469, 1, .aload_n 1, (0, 0, 0, 0, 0, 0)), (1470, 3, .invokevirtual 156, (95, 0, 0, 1, 3, 5)),
  (1473, 2, .istore 19, (0, 0, 0, 0, 0, 0)), (1475, 1, .aload_n 1, (0, 0, 0, 0, 0, 0)), (1476, 3, .invokevirtual 77, (101, 0, 0, 1, 1, 5)), (1479, 2, .istore 20, (0, 0, 0, 0, 0, 0)), (1481, 2, .iload 19, (0, 0, 0, 0, 0, 0)), (1483, 3, .ifCond .lt 36, (1519, 0, 0, 0, 0, 0))]
def z_L_law_19 : List zI := [
  (1486, 2, .iload 20, (0, 0, 0, 0, 0, 0)), (1488, 3, .ifCond .lt 31, (1519, 0, 0, 0, 0, 0)), (1491, 2, .iload 20, (0, 0, 0, 0, 0, 0)), (1493, 2, .iload 4, (0, 0, 0, 0, 0, 0)), (1495, 3, .if_icmp .ge 24, (1519, 0, 0, 0, 0, 0)), (1498, 2, .iload 19, (0, 0, 0, 0, 0, 0)),
  (1500, 2, .iload 4, (0, 0, 0, 0, 0, 0)), (1502, 3, .if_icmp .ge 17, (1519, 0, 0, 0, 0, 0)), (1505, 2, .iload 9, (0, 0, 0, 0, 0, 0)), (1507, 2, .iload 4, (0, 0, 0, 0, 0, 0)), (1509, 3, .if_icmp .ne 12, (1521, 0, 0, 0, 0, 0)), (1512, 2, .iload 19, (0, 0, 0, 0, 0, 0)),
  (1514, 2, .iload 20, (0, 0, 0, 0, 0, 0)), (1516, 3, .if_icmp .le 5, (1521, 0, 0, 0, 0, 0)), (1519, 1, .iconst 0, (0, 0, 0, 0, 0, 0)), (1520, 1, .ireturn, (1, 0, 0, 0, 0, 0)), (1521, 1, .aload_n 1, (0, 0, 0, 0, 0, 0)), (1522, 2, .iload 13, (0, 0, 0, 0, 0, 0)),
  (1524, 1, .iconst 4, (0, 0, 0, 0, 0, 0)), (1525, 3, .invokevirtual 159, (97, 0, 2, 1, 8, 5)), (1528, 2, .istore 21, (0, 0, 0, 0, 0, 0)), (1530, 1, .aload_n 1, (0, 0, 0, 0, 0, 0)), (1531, 2, .iload 13, (0, 0, 0, 0, 0, 0)), (1533, 3, .invokevirtual 120, (86, 0, 1, 1, 2, 5)),
  (1536, 3, .ifCond .ge 7, (1543, 0, 0, 0, 0, 0)), (1539, 1, .iconst (-1), (0, 0, 0, 0, 0, 0)), (1540, 3, .goto 7, (1547, 0, 0, 0, 0, 0)), (1543, 1, .aload_n 1, (0, 0, 0, 0, 0, 0)), (1544, 3, .invokevirtual 77, (101, 0, 0, 1, 1, 5)), (1547, 2, .istore 22, (0, 0, 0, 0, 0, 0)),
  (1549, 1, .iconst 0, (0, 0, 0, 0, 0, 0)), (1550, 2, .istore 23, (0, 0, 0, 0, 0, 0)), (1552, 1, .iconst (-1), (0, 0, 0, 0, 0, 0)), (1553, 2, .istore 24, (0, 0, 0, 0, 0, 0)), (1555, 1, .iconst 0, (0, 0, 0, 0, 0, 0)), (1556, 2, .istore 25, (0, 0, 0, 0, 0, 0)),
  (1558, 2, .iload 25, (0, 0, 0, 0, 0, 0)), (1560, 2, .iload 22, (0, 0, 0, 0, 0, 0)), (1562, 3, .if_icmp .ge 93, (1655, 0, 0, 0, 0, 0)), (1565, 1, .aload_n 1, (0, 0, 0, 0, 0, 0)), (1566, 1, .iconst 4, (0, 0, 0, 0, 0, 0)), (1567, 2, .iload 25, (0, 0, 0, 0, 0, 0)),
  (1569, 3, .invokevirtual 162, (68, 0, 2, 1, 4, 5)), (1572, 1, .iconst 1, (0, 0, 0, 0, 0, 0)), (1573, 3, .if_icmp .ne 10, (1583, 0, 0, 0, 0, 0)), (1576, 1, .aload_n 1, (0, 0, 0, 0, 0, 0)), (1577, 3, .invokevirtual 77, (101, 0, 0, 1, 1, 5)), (1580, 3, .goto 4, (1584, 0, 0, 0, 0, 0))]
def z_L_law_20 : List zI := [
  (1583, 1, .iconst (-1), (0, 0, 0, 0, 0, 0)), (1584, 2, .istore 24, (0, 0, 0, 0, 0, 0)), (1586, 2, .iload 24, (0, 0, 0, 0, 0, 0)), (1588, 3, .ifCond .lt 50, (1638, 0, 0, 0, 0, 0)), (1591, 2, .iload 24, (0, 0, 0, 0, 0, 0)), (1593, 2, .iload 4, (0, 0, 0, 0, 0, 0)),
  (1595, 3, .if_icmp .ge 43, (1638, 0, 0, 0, 0, 0)), (1598, 2, .iload 23, (0, 0, 0, 0, 0, 0)), (1600, 2, .iload 24, (0, 0, 0, 0, 0, 0)), (1602, 1, .ishr, (0, 0, 0, 0, 0, 0)), (1603, 1, .iconst 1, (0, 0, 0, 0, 0, 0)), (1604, 1, .iand, (0, 0, 0, 0, 0, 0)),
  (1605, 1, .iconst 1, (0, 0, 0, 0, 0, 0)), (1606, 3, .if_icmp .eq 32, (1638, 0, 0, 0, 0, 0)), (1609, 2, .iload 13, (0, 0, 0, 0, 0, 0)), (1611, 3, .ifCond .le 17, (1628, 0, 0, 0, 0, 0)), (1614, 1, .aload_n 1, (0, 0, 0, 0, 0, 0)), (1615, 2, .iload 24, (0, 0, 0, 0, 0, 0)),
  (1617, 1, .iconst 2, (0, 0, 0, 0, 0, 0)), (1618, 3, .invokestatic 99, (138, 2, 3, 1, 3, 0)), (1621, 2, .iload 13, (0, 0, 0, 0, 0, 0)), (1623, 1, .iconst 1, (0, 0, 0, 0, 0, 0)), (1624, 1, .isub, (0, 0, 0, 0, 0, 0)), (1625, 3, .if_icmp .eq 13, (1638, 0, 0, 0, 0, 0)),
  (1628, 1, .aload_n 1, (0, 0, 0, 0, 0, 0)), (1629, 2, .iload 24, (0, 0, 0, 0, 0, 0)), (1631, 1, .iconst 4, (0, 0, 0, 0, 0, 0)), (1632, 3, .invokestatic 99, (138, 2, 3, 1, 3, 0)), (1635, 3, .ifCond .ge 5, (1640, 0, 0, 0, 0, 0)), (1638, 1, .iconst 0, (0, 0, 0, 0, 0, 0)),
  (1639, 1, .ireturn, (1, 0, 0, 0, 0, 0)), (1640, 2, .iload 23, (0, 0, 0, 0, 0, 0)), (1642, 1, .iconst 1, (0, 0, 0, 0, 0, 0)), (1643, 2, .iload 24, (0, 0, 0, 0, 0, 0)), (1645, 1, .ishl, (0, 0, 0, 0, 0, 0)), (1646, 1, .ior, (0, 0, 0, 0, 0, 0)),
  (1647, 2, .istore 23, (0, 0, 0, 0, 0, 0)), (1649, 3, .iinc 25 1, (0, 0, 0, 0, 0, 0)), (1652, 3, .goto (-94), (1558, 0, 0, 0, 0, 0)), (1655, 2, .iload 21, (0, 0, 0, 0, 0, 0)), (1657, 3, .ifCond .lt 26, (1683, 0, 0, 0, 0, 0)), (1660, 1, .aload_n 1, (0, 0, 0, 0, 0, 0)),
  (1661, 1, .iconst 4, (0, 0, 0, 0, 0, 0)), (1662, 2, .iload 22, (0, 0, 0, 0, 0, 0)), (1664, 3, .invokevirtual 162, (68, 0, 2, 1, 4, 5)), (1667, 2, .bipush (-3), (0, 0, 0, 0, 0, 0)), (1669, 3, .if_icmp .ne 14, (1683, 0, 0, 0, 0, 0)), (1672, 2, .iload 22, (0, 0, 0, 0, 0, 0))]
def z_L_law_21 : List zI := [
  (1674, 1, .iconst 2, (0, 0, 0, 0, 0, 0)), (1675, 3, .if_icmp .ge 10, (1685, 0, 0, 0, 0, 0)), (1678, 2, .iload 21, (0, 0, 0, 0, 0, 0)), (1680, 3, .ifCond .eq 5, (1685, 0, 0, 0, 0, 0)), (1683, 1, .iconst 0, (0, 0, 0, 0, 0, 0)), (1684, 1, .ireturn, (1, 0, 0, 0, 0, 0)),
  (1685, 1, .aload_n 1, (0, 0, 0, 0, 0, 0)), (1686, 1, .iconst 5, (0, 0, 0, 0, 0, 0)), (1687, 1, .iconst 4, (0, 0, 0, 0, 0, 0)), (1688, 3, .invokevirtual 165, (66, 0, 2, 1, 3, 5)), (1691, 1, .iconst 4, (0, 0, 0, 0, 0, 0)), (1692, 3, .if_icmp .ne 84, (1776, 0, 0, 0, 0, 0)),
  (1695, 1, .aload_n 1, (0, 0, 0, 0, 0, 0)), (1696, 1, .iconst 5, (0, 0, 0, 0, 0, 0)), (1697, 1, .iconst 0, (0, 0, 0, 0, 0, 0)), (1698, 1, .iconst 1, (0, 0, 0, 0, 0, 0)), (1699, 3, .invokevirtual 168, (67, 0, 3, 1, 5, 5)), (1702, 1, .iconst 1, (0, 0, 0, 0, 0, 0)),
  (1703, 3, .if_icmp .ne 73, (1776, 0, 0, 0, 0, 0)), (1706, 1, .aload_n 1, (0, 0, 0, 0, 0, 0)), (1707, 1, .iconst 5, (0, 0, 0, 0, 0, 0)), (1708, 1, .iconst 1, (0, 0, 0, 0, 0, 0)), (1709, 1, .aload_n 1, (0, 0, 0, 0, 0, 0)), (1710, 1, .iconst 1, (0, 0, 0, 0, 0, 0)),
  (1711, 1, .iconst 1, (0, 0, 0, 0, 0, 0)), (1712, 3, .invokevirtual 144, (92, 0, 2, 1, 4, 5)), (1715, 3, .invokevirtual 168, (67, 0, 3, 1, 5, 5)), (1718, 1, .iconst 1, (0, 0, 0, 0, 0, 0)), (1719, 3, .if_icmp .ne 57, (1776, 0, 0, 0, 0, 0)), (1722, 1, .aload_n 1, (0, 0, 0, 0, 0, 0)),
  (1723, 1, .iconst 5, (0, 0, 0, 0, 0, 0)), (1724, 1, .iconst 2, (0, 0, 0, 0, 0, 0)), (1725, 1, .iconst 2, (0, 0, 0, 0, 0, 0)), (1726, 3, .invokevirtual 168, (67, 0, 3, 1, 5, 5)), (1729, 1, .iconst 1, (0, 0, 0, 0, 0, 0)), (1730, 3, .if_icmp .ne 46, (1776, 0, 0, 0, 0, 0)),
  (1733, 1, .aload_n 1, (0, 0, 0, 0, 0, 0)), (1734, 1, .iconst 5, (0, 0, 0, 0, 0, 0)), (1735, 1, .iconst 3, (0, 0, 0, 0, 0, 0)), (1736, 1, .aload_n 1, (0, 0, 0, 0, 0, 0)), (1737, 1, .iconst 1, (0, 0, 0, 0, 0, 0)), (1738, 1, .iconst 2, (0, 0, 0, 0, 0, 0)),
  (1739, 3, .invokevirtual 144, (92, 0, 2, 1, 4, 5)), (1742, 3, .invokevirtual 168, (67, 0, 3, 1, 5, 5)), (1745, 1, .iconst 1, (0, 0, 0, 0, 0, 0)), (1746, 3, .if_icmp .ne 30, (1776, 0, 0, 0, 0, 0)), (1749, 1, .aload_n 1, (0, 0, 0, 0, 0, 0)), (1750, 1, .iconst 5, (0, 0, 0, 0, 0, 0))]
def z_L_law_22 : List zI := [
  (1751, 3, .invokevirtual 171, (98, 0, 1, 1, 4, 5)), (1754, 1, .iconst 1, (0, 0, 0, 0, 0, 0)), (1755, 3, .if_icmp .ne 21, (1776, 0, 0, 0, 0, 0)), (1758, 1, .aload_n 1, (0, 0, 0, 0, 0, 0)), (1759, 3, .invokevirtual 150, (102, 0, 0, 2, 1, 5)), (1762, 1, .lconst 1, (0, 0, 0, 0, 0, 0)),
  (1763, 1, .lcmp, (0, 0, 0, 0, 0, 0)), (1764, 3, .ifCond .lt 12, (1776, 0, 0, 0, 0, 0)), (1767, 1, .aload_n 1, (0, 0, 0, 0, 0, 0)), (1768, 3, .invokevirtual 153, (103, 0, 0, 2, 1, 5)), (1771, 1, .lconst 1, (0, 0, 0, 0, 0, 0)), (1772, 1, .lcmp, (0, 0, 0, 0, 0, 0)),
  (1773, 3, .ifCond .eq 5, (1778, 0, 0, 0, 0, 0)), (1776, 1, .iconst 0, (0, 0, 0, 0, 0, 0)), (1777, 1, .ireturn, (1, 0, 0, 0, 0, 0)), (1778, 1, .aload_n 1, (0, 0, 0, 0, 0, 0)), (1779, 3, .invokevirtual 77, (101, 0, 0, 1, 1, 5)), (1782, 2, .istore 25, (0, 0, 0, 0, 0, 0)),
  (1784, 1, .aload_n 1, (0, 0, 0, 0, 0, 0)), (1785, 3, .invokevirtual 150, (102, 0, 0, 2, 1, 5)), (1788, 2, .lstore 26, (0, 0, 0, 0, 0, 0)), (1790, 2, .iload 25, (0, 0, 0, 0, 0, 0)), (1792, 2, .bipush (-9), (0, 0, 0, 0, 0, 0)), (1794, 3, .if_icmp .eq 22, (1816, 0, 0, 0, 0, 0)),
  (1797, 1, .aload_n 1, (0, 0, 0, 0, 0, 0)), (1798, 1, .iconst 1, (0, 0, 0, 0, 0, 0)), (1799, 1, .iconst 0, (0, 0, 0, 0, 0, 0)), (1800, 3, .invokevirtual 162, (68, 0, 2, 1, 4, 5)), (1803, 1, .iconst 1, (0, 0, 0, 0, 0, 0)), (1804, 3, .if_icmp .ne 82, (1886, 0, 0, 0, 0, 0)),
  (1807, 1, .aload_n 1, (0, 0, 0, 0, 0, 0)), (1808, 3, .invokevirtual 77, (101, 0, 0, 1, 1, 5)), (1811, 2, .iload 25, (0, 0, 0, 0, 0, 0)), (1813, 3, .if_icmp .ne 73, (1886, 0, 0, 0, 0, 0)), (1816, 2, .lload 26, (0, 0, 0, 0, 0, 0)), (1818, 1, .lconst 1, (0, 0, 0, 0, 0, 0)),
  (1819, 1, .lcmp, (0, 0, 0, 0, 0, 0)), (1820, 3, .ifCond .ne 10, (1830, 0, 0, 0, 0, 0)), (1823, 2, .iload 25, (0, 0, 0, 0, 0, 0)), (1825, 2, .bipush (-9), (0, 0, 0, 0, 0, 0)), (1827, 3, .if_icmp .eq 59, (1886, 0, 0, 0, 0, 0)), (1830, 1, .aload_n 1, (0, 0, 0, 0, 0, 0)),
  (1831, 1, .iconst 5, (0, 0, 0, 0, 0, 0)), (1832, 1, .iconst 2, (0, 0, 0, 0, 0, 0)), (1833, 3, .invokevirtual 165, (66, 0, 2, 1, 3, 5)), (1836, 1, .iconst 2, (0, 0, 0, 0, 0, 0)), (1837, 3, .if_icmp .ne 49, (1886, 0, 0, 0, 0, 0)), (1840, 1, .aload_n 1, (0, 0, 0, 0, 0, 0))]
def z_L_law_23 : List zI := [
  (1841, 1, .iconst 5, (0, 0, 0, 0, 0, 0)), (1842, 1, .iconst 0, (0, 0, 0, 0, 0, 0)), (1843, 1, .iconst 1, (0, 0, 0, 0, 0, 0)), (1844, 3, .invokevirtual 168, (67, 0, 3, 1, 5, 5)), (1847, 1, .iconst 1, (0, 0, 0, 0, 0, 0)), (1848, 3, .if_icmp .ne 38, (1886, 0, 0, 0, 0, 0)),
  (1851, 1, .aload_n 1, (0, 0, 0, 0, 0, 0)), (1852, 1, .iconst 5, (0, 0, 0, 0, 0, 0)), (1853, 1, .iconst 1, (0, 0, 0, 0, 0, 0)), (1854, 1, .aload_n 1, (0, 0, 0, 0, 0, 0)), (1855, 1, .iconst 1, (0, 0, 0, 0, 0, 0)), (1856, 1, .iconst 1, (0, 0, 0, 0, 0, 0)),
  (1857, 3, .invokevirtual 144, (92, 0, 2, 1, 4, 5)), (1860, 3, .invokevirtual 168, (67, 0, 3, 1, 5, 5)), (1863, 1, .iconst 1, (0, 0, 0, 0, 0, 0)), (1864, 3, .if_icmp .ne 22, (1886, 0, 0, 0, 0, 0)), (1867, 1, .aload_n 1, (0, 0, 0, 0, 0, 0)), (1868, 1, .iconst 5, (0, 0, 0, 0, 0, 0)),
  (1869, 3, .invokevirtual 171, (98, 0, 1, 1, 4, 5)), (1872, 1, .iconst 1, (0, 0, 0, 0, 0, 0)), (1873, 3, .if_icmp .ne 13, (1886, 0, 0, 0, 0, 0)), (1876, 1, .aload_n 1, (0, 0, 0, 0, 0, 0)), (1877, 3, .invokevirtual 150, (102, 0, 0, 2, 1, 5)), (1880, 2, .lload 26, (0, 0, 0, 0, 0, 0)),
  (1882, 1, .lcmp, (0, 0, 0, 0, 0, 0)), (1883, 3, .ifCond .ge 5, (1888, 0, 0, 0, 0, 0)), (1886, 1, .iconst 0, (0, 0, 0, 0, 0, 0)), (1887, 1, .ireturn, (1, 0, 0, 0, 0, 0)), (1888, 1, .aload_n 1, (0, 0, 0, 0, 0, 0)), (1889, 1, .iconst 2, (0, 0, 0, 0, 0, 0)),
  (1890, 1, .iconst 1, (0, 0, 0, 0, 0, 0)), (1891, 2, .iload 8, (0, 0, 0, 0, 0, 0)), (1893, 2, .ldc 174, (0, 0, 0, 0, 0, 16777215)), (1895, 1, .iand, (0, 0, 0, 0, 0, 0)), (1896, 1, .iadd, (0, 0, 0, 0, 0, 0)), (1897, 3, .invokevirtual 175, (100, 0, 2, 1, 7, 5)),
  (1900, 3, .ifCond .lt 45, (1945, 0, 0, 0, 0, 0)), (1903, 1, .aload_n 1, (0, 0, 0, 0, 0, 0)), (1904, 1, .iconst 2, (0, 0, 0, 0, 0, 0)), (1905, 3, .invokevirtual 103, (104, 0, 1, 1, 2, 5)), (1908, 2, .iload 10, (0, 0, 0, 0, 0, 0)), (1910, 1, .iconst 2, (0, 0, 0, 0, 0, 0)),
  (1911, 1, .iadd, (0, 0, 0, 0, 0, 0)), (1912, 3, .if_icmp .ne 33, (1945, 0, 0, 0, 0, 0)), (1915, 1, .aload_n 1, (0, 0, 0, 0, 0, 0)), (1916, 2, .iload 10, (0, 0, 0, 0, 0, 0)), (1918, 3, .invokevirtual 114, (81, 0, 1, 1, 3, 5)), (1921, 1, .iconst 2, (0, 0, 0, 0, 0, 0))]
def z_L_law_24 : List zI := [
  (1922, 3, .if_icmp .ne 23, (1945, 0, 0, 0, 0, 0)), (1925, 1, .aload_n 1, (0, 0, 0, 0, 0, 0)), (1926, 1, .iconst 2, (0, 0, 0, 0, 0, 0)), (1927, 3, .invokevirtual 103, (104, 0, 1, 1, 2, 5)), (1930, 2, .iload 10, (0, 0, 0, 0, 0, 0)), (1932, 3, .if_icmp .ne 13, (1945, 0, 0, 0, 0, 0)),
  (1935, 1, .aload_n 1, (0, 0, 0, 0, 0, 0)), (1936, 1, .iconst 3, (0, 0, 0, 0, 0, 0)), (1937, 3, .invokevirtual 103, (104, 0, 1, 1, 2, 5)), (1940, 2, .iload 9, (0, 0, 0, 0, 0, 0)), (1942, 3, .if_icmp .eq 5, (1947, 0, 0, 0, 0, 0)), (1945, 1, .iconst 0, (0, 0, 0, 0, 0, 0)),
  (1946, 1, .ireturn, (1, 0, 0, 0, 0, 0)), (1947, 3, .iinc 7 1, (0, 0, 0, 0, 0, 0)), (1950, 3, .goto (-1896), (54, 134213376, 0, 0, 0, 0)), (1953, 1, .aload_n 1, (0, 0, 0, 0, 0, 0)), (1954, 1, .iconst 2, (0, 0, 0, 0, 0, 0)), (1955, 3, .invokevirtual 103, (104, 0, 1, 1, 2, 5)),
  (1958, 2, .istore 7, (0, 0, 0, 0, 0, 0)), (1960, 1, .aload_n 1, (0, 0, 0, 0, 0, 0)), (1961, 1, .iconst 1, (0, 0, 0, 0, 0, 0)), (1962, 3, .invokevirtual 89, (82, 0, 1, 1, 2, 5)), (1965, 2, .iload 7, (0, 0, 0, 0, 0, 0)), (1967, 3, .if_icmp .ne 49, (2016, 0, 0, 0, 0, 0)),
  (1970, 1, .aload_n 1, (0, 0, 0, 0, 0, 0)), (1971, 1, .iconst 0, (0, 0, 0, 0, 0, 0)), (1972, 3, .invokevirtual 178, (83, 0, 1, 1, 2, 5)), (1975, 3, .ifCond .ne 41, (2016, 0, 0, 0, 0, 0)), (1978, 1, .aload_n 1, (0, 0, 0, 0, 0, 0)), (1979, 1, .iconst 3, (0, 0, 0, 0, 0, 0)),
  (1980, 3, .invokevirtual 103, (104, 0, 1, 1, 2, 5)), (1983, 2, .iload 4, (0, 0, 0, 0, 0, 0)), (1985, 3, .if_icmp .ne 31, (2016, 0, 0, 0, 0, 0)), (1988, 1, .aload_n 1, (0, 0, 0, 0, 0, 0)), (1989, 1, .iconst 1, (0, 0, 0, 0, 0, 0)), (1990, 3, .invokevirtual 178, (83, 0, 1, 1, 2, 5)),
  (1993, 2, .iload 7, (0, 0, 0, 0, 0, 0)), (1995, 3, .if_icmp .ne 21, (2016, 0, 0, 0, 0, 0)), (1998, 1, .aload_n 1, (0, 0, 0, 0, 0, 0)), (1999, 1, .iconst 0, (0, 0, 0, 0, 0, 0)), (2000, 3, .invokevirtual 114, (81, 0, 1, 1, 3, 5)), (2003, 2, .iload 7, (0, 0, 0, 0, 0, 0)),
  (2005, 3, .if_icmp .ne 11, (2016, 0, 0, 0, 0, 0)), (2008, 1, .aload_n 1, (0, 0, 0, 0, 0, 0)), (2009, 1, .iconst 4, (0, 0, 0, 0, 0, 0)), (2010, 3, .invokevirtual 103, (104, 0, 1, 1, 2, 5)), (2013, 3, .ifCond .eq 5, (2018, 0, 0, 0, 0, 0)), (2016, 1, .iconst 0, (0, 0, 0, 0, 0, 0))]
def z_L_law_25 : List zI := [
  (2017, 1, .ireturn, (1, 0, 0, 0, 0, 0)), (2018, 1, .iconst 1, (0, 0, 0, 0, 0, 0)), (2019, 2, .istore 8, (0, 0, 0, 0, 0, 0)), (2021, 2, .iload 8, (0, 0, 0, 0, 0, 0)), (2023, 2, .bipush 6, (0, 0, 0, 0, 0, 0)), (2025, 3, .if_icmp .ge 21, (2046, 0, 0, 0, 0, 0)),
  (2028, 1, .aload_n 1, (0, 0, 0, 0, 0, 0)), (2029, 2, .iload 8, (0, 0, 0, 0, 0, 0)), (2031, 3, .invokevirtual 181, (69, 0, 1, 1, 3, 5)), (2034, 1, .iconst 1, (0, 0, 0, 0, 0, 0)), (2035, 3, .if_icmp .eq 5, (2040, 0, 0, 0, 0, 0)), (2038, 1, .iconst 0, (0, 0, 0, 0, 0, 0)),
  (2039, 1, .ireturn, (1, 0, 0, 0, 0, 0)), (2040, 3, .iinc 8 1, (0, 0, 0, 0, 0, 0)), (2043, 3, .goto (-22), (2021, 0, 0, 0, 0, 0)), (2046, 1, .aload_n 1, (0, 0, 0, 0, 0, 0)), (2047, 1, .iconst 0, (0, 0, 0, 0, 0, 0)), (2048, 3, .invokevirtual 38, (73, 0, 1, 1, 5, 5)),
  (2051, 2, .iload 4, (0, 0, 0, 0, 0, 0)), (2053, 3, .if_icmp .ne 17, (2070, 0, 0, 0, 0, 0)), (2056, 1, .aload_n 1, (0, 0, 0, 0, 0, 0)), (2057, 3, .invokevirtual 85, (105, 0, 0, 2, 5, 5)), (2060, 2, .lload 5, (0, 0, 0, 0, 0, 0)), (2062, 1, .lcmp, (0, 0, 0, 0, 0, 0)),
  (2063, 3, .ifCond .ne 7, (2070, 0, 0, 0, 0, 0)), (2066, 1, .iconst 1, (0, 0, 0, 0, 0, 0)), (2067, 3, .goto 4, (2071, 0, 0, 0, 0, 0)), (2070, 1, .iconst 0, (0, 0, 0, 0, 0, 0)), (2071, 1, .ireturn, (1, 0, 0, 0, 0, 0))]
def z_L_law : List zI := z_L_law_0 ++ (z_L_law_1 ++ (z_L_law_2 ++ (z_L_law_3 ++ (z_L_law_4 ++ (z_L_law_5 ++ (z_L_law_6 ++ (z_L_law_7 ++ (z_L_law_8 ++ (z_L_law_9 ++ (z_L_law_10 ++ (z_L_law_11 ++ (z_L_law_12 ++ (z_L_law_13 ++ (z_L_law_14 ++ (z_L_law_15 ++ (z_L_law_16 ++ (z_L_law_17 ++ (z_L_law_18 ++ (z_L_law_19 ++ (z_L_law_20 ++ (z_L_law_21 ++ (z_L_law_22 ++ (z_L_law_23 ++ (z_L_law_24 ++ (z_L_law_25)))))))))))))))))))))))))
def z_X0_init : List zI := [
  (0, 1, .aload_n 0, (0, 0, 0, 0, 0, 0)), (1, 3, .invokespecial 3, (0, 4, 0, 0, 0, 0)), (4, 1, .aload_n 0, (0, 0, 0, 0, 0, 0)), (5, 2, .bipush 6, (0, 0, 0, 0, 0, 0)), (7, 2, .newarray .int, (0, 0, 0, 0, 0, 0)), (9, 3, .putfield 9, (0, 1, 2, 0, 0, 0)),
  (12, 1, .aload_n 0, (0, 0, 0, 0, 0, 0)), (13, 2, .bipush 7, (0, 0, 0, 0, 0, 0)), (15, 2, .newarray .int, (0, 0, 0, 0, 0, 0)), (17, 3, .putfield 15, (0, 2, 2, 0, 0, 0)), (20, 1, .aload_n 0, (0, 0, 0, 0, 0, 0)), (21, 2, .bipush 6, (0, 0, 0, 0, 0, 0)),
  (23, 2, .newarray .int, (0, 0, 0, 0, 0, 0)), (25, 3, .putfield 18, (0, 3, 2, 0, 0, 0)), (28, 1, .aload_n 0, (0, 0, 0, 0, 0, 0)), (29, 2, .bipush 6, (0, 0, 0, 0, 0, 0)), (31, 2, .newarray .int, (0, 0, 0, 0, 0, 0)), (33, 3, .putfield 21, (0, 4, 2, 0, 0, 0)),
  (36, 1, .aload_n 0, (0, 0, 0, 0, 0, 0)), (37, 1, .aload_n 1, (0, 0, 0, 0, 0, 0)), (38, 3, .invokevirtual 24, (2, 0, 1, 0, 2, 0)), (41, 1, .return_, (0, 0, 0, 0, 0, 0))]
def z_X0_begin : List zI := [
  (0, 1, .aload_n 0, (0, 0, 0, 0, 0, 0)), (1, 1, .aload_n 1, (0, 0, 0, 0, 0, 0)), (2, 3, .putfield 28, (0, 0, 2, 0, 0, 0)), (5, 1, .aload_n 1, (0, 0, 0, 0, 0, 0)), (6, 3, .getfield 32, (1, 4, 2, 1, 0, 0)), (9, 1, .iconst 0, (0, 0, 0, 0, 0, 0)),
  (10, 1, .aload_n 0, (0, 0, 0, 0, 0, 0)), (11, 3, .getfield 18, (0, 3, 2, 0, 0, 0)), (14, 1, .iconst 0, (0, 0, 0, 0, 0, 0)), (15, 2, .bipush 6, (0, 0, 0, 0, 0, 0)), (17, 3, .invokestatic 37, (0, 3, 0, 0, 0, 0)), (20, 1, .aload_n 0, (0, 0, 0, 0, 0, 0)),
  (21, 3, .getfield 21, (0, 4, 2, 0, 0, 0)), (24, 1, .iconst 0, (0, 0, 0, 0, 0, 0)), (25, 3, .invokestatic 43, (129, 2, 2, 0, 4, 0)), (28, 1, .aload_n 0, (0, 0, 0, 0, 0, 0)), (29, 3, .invokevirtual 49, (15, 0, 0, 0, 2, 0)), (32, 1, .return_, (0, 0, 0, 0, 0, 0))]
def z_X0_copyFrom : List zI := [
  (0, 1, .aload_n 0, (0, 0, 0, 0, 0, 0)), (1, 1, .aload_n 1, (0, 0, 0, 0, 0, 0)), (2, 3, .getfield 28, (0, 0, 2, 0, 0, 0)), (5, 3, .putfield 28, (0, 0, 2, 0, 0, 0)), (8, 1, .aload_n 1, (0, 0, 0, 0, 0, 0)), (9, 3, .getfield 9, (0, 1, 2, 0, 0, 0)),
  (12, 1, .iconst 0, (0, 0, 0, 0, 0, 0)), (13, 1, .aload_n 0, (0, 0, 0, 0, 0, 0)), (14, 3, .getfield 9, (0, 1, 2, 0, 0, 0)), (17, 1, .iconst 0, (0, 0, 0, 0, 0, 0)), (18, 2, .bipush 6, (0, 0, 0, 0, 0, 0)), (20, 3, .invokestatic 37, (0, 3, 0, 0, 0, 0)),
  (23, 1, .aload_n 1, (0, 0, 0, 0, 0, 0)), (24, 3, .getfield 15, (0, 2, 2, 0, 0, 0)), (27, 1, .iconst 0, (0, 0, 0, 0, 0, 0)), (28, 1, .aload_n 0, (0, 0, 0, 0, 0, 0)), (29, 3, .getfield 15, (0, 2, 2, 0, 0, 0)), (32, 1, .iconst 0, (0, 0, 0, 0, 0, 0)),
  (33, 2, .bipush 7, (0, 0, 0, 0, 0, 0)), (35, 3, .invokestatic 37, (0, 3, 0, 0, 0, 0)), (38, 1, .aload_n 1, (0, 0, 0, 0, 0, 0)), (39, 3, .getfield 18, (0, 3, 2, 0, 0, 0)), (42, 1, .iconst 0, (0, 0, 0, 0, 0, 0)), (43, 1, .aload_n 0, (0, 0, 0, 0, 0, 0)),
  (44, 3, .getfield 18, (0, 3, 2, 0, 0, 0)), (47, 1, .iconst 0, (0, 0, 0, 0, 0, 0)), (48, 2, .bipush 6, (0, 0, 0, 0, 0, 0)), (50, 3, .invokestatic 37, (0, 3, 0, 0, 0, 0)), (53, 1, .aload_n 1, (0, 0, 0, 0, 0, 0)), (54, 3, .getfield 21, (0, 4, 2, 0, 0, 0)),
  (57, 1, .iconst 0, (0, 0, 0, 0, 0, 0)), (58, 1, .aload_n 0, (0, 0, 0, 0, 0, 0)), (59, 3, .getfield 21, (0, 4, 2, 0, 0, 0)), (62, 1, .iconst 0, (0, 0, 0, 0, 0, 0)), (63, 2, .bipush 6, (0, 0, 0, 0, 0, 0)), (65, 3, .invokestatic 37, (0, 3, 0, 0, 0, 0)),
  (68, 1, .return_, (0, 0, 0, 0, 0, 0))]
def z_X0_manDetail : List zI := [
  (0, 1, .iload_n 2, (0, 0, 0, 0, 0, 0)), (1, 35, .tableswitch 79 0 4 #[35, 45, 52, 62, 72], (0, 0, 0, 0, 0, 0)), (36, 1, .aload_n 0, (0, 0, 0, 0, 0, 0)), (37, 3, .getfield 28, (0, 0, 2, 0, 0, 0)), (40, 3, .getfield 52, (1, 3, 2, 1, 0, 0)), (43, 1, .iload_n 1, (0, 0, 0, 0, 0, 0)),
  (44, 1, .iaload, (0, 0, 0, 0, 0, 0)), (45, 1, .ireturn, (0, 0, 0, 0, 0, 0)), (46, 1, .aload_n 0, (0, 0, 0, 0, 0, 0)), (47, 3, .getfield 18, (0, 3, 2, 0, 0, 0)), (50, 1, .iload_n 1, (0, 0, 0, 0, 0, 0)), (51, 1, .iaload, (0, 0, 0, 0, 0, 0)),
  (52, 1, .ireturn, (0, 0, 0, 0, 0, 0)), (53, 1, .aload_n 0, (0, 0, 0, 0, 0, 0)), (54, 3, .getfield 28, (0, 0, 2, 0, 0, 0)), (57, 3, .getfield 55, (1, 5, 2, 1, 0, 0)), (60, 1, .iload_n 1, (0, 0, 0, 0, 0, 0)), (61, 1, .iaload, (0, 0, 0, 0, 0, 0)),
  (62, 1, .ireturn, (0, 0, 0, 0, 0, 0)), (63, 1, .aload_n 0, (0, 0, 0, 0, 0, 0)), (64, 3, .getfield 28, (0, 0, 2, 0, 0, 0)), (67, 3, .getfield 58, (1, 6, 2, 1, 0, 0)), (70, 1, .iload_n 1, (0, 0, 0, 0, 0, 0)), (71, 1, .iaload, (0, 0, 0, 0, 0, 0)),
  (72, 1, .ireturn, (0, 0, 0, 0, 0, 0)), (73, 1, .aload_n 0, (0, 0, 0, 0, 0, 0)), (74, 3, .getfield 9, (0, 1, 2, 0, 0, 0)), (77, 1, .iload_n 1, (0, 0, 0, 0, 0, 0)), (78, 1, .iaload, (0, 0, 0, 0, 0, 0)), (79, 1, .ireturn, (0, 0, 0, 0, 0, 0)),
  (80, 1, .aload_n 0, (0, 0, 0, 0, 0, 0)), (81, 3, .getfield 21, (0, 4, 2, 0, 0, 0)), (84, 1, .iload_n 1, (0, 0, 0, 0, 0, 0)), (85, 1, .iaload, (0, 0, 0, 0, 0, 0)), (86, 1, .ireturn, (0, 0, 0, 0, 0, 0))]
def z_X0_hookDetail : List zI := [
  (0, 1, .iload_n 2, (0, 0, 0, 0, 0, 0)), (1, 3, .ifCond .ne 15, (16, 0, 0, 0, 0, 0)), (4, 1, .aload_n 0, (0, 0, 0, 0, 0, 0)), (5, 3, .getfield 28, (0, 0, 2, 0, 0, 0)), (8, 3, .getfield 61, (1, 2, 2, 1, 0, 0)), (11, 1, .iload_n 1, (0, 0, 0, 0, 0, 0)),
  (12, 1, .iaload, (0, 0, 0, 0, 0, 0)), (13, 3, .goto 9, (22, 0, 0, 0, 0, 0)), (16, 1, .aload_n 0, (0, 0, 0, 0, 0, 0)), (17, 3, .getfield 15, (0, 2, 2, 0, 0, 0)), (20, 1, .iload_n 1, (0, 0, 0, 0, 0, 0)), (21, 1, .iaload, (0, 0, 0, 0, 0, 0)),
  (22, 1, .ireturn, (0, 0, 0, 0, 0, 0))]
def z_X0_tiredTogether : List zI := [
  (0, 1, .iconst 0, (0, 0, 0, 0, 0, 0)), (1, 1, .istore_n 1, (0, 0, 0, 0, 0, 0)), (2, 1, .iconst 0, (0, 0, 0, 0, 0, 0)), (3, 1, .istore_n 2, (0, 0, 0, 0, 0, 0)), (4, 1, .iload_n 2, (0, 0, 0, 0, 0, 0)), (5, 1, .aload_n 0, (0, 0, 0, 0, 0, 0)),
  (6, 3, .getfield 28, (0, 0, 2, 0, 0, 0)), (9, 3, .getfield 64, (1, 1, 0, 1, 0, 0)), (12, 3, .if_icmp .ge 18, (30, 0, 0, 0, 0, 0)), (15, 1, .iload_n 1, (0, 0, 0, 0, 0, 0)), (16, 1, .aload_n 0, (0, 0, 0, 0, 0, 0)), (17, 3, .getfield 21, (0, 4, 2, 0, 0, 0)),
  (20, 1, .iload_n 2, (0, 0, 0, 0, 0, 0)), (21, 1, .iaload, (0, 0, 0, 0, 0, 0)), (22, 1, .iadd, (0, 0, 0, 0, 0, 0)), (23, 1, .istore_n 1, (0, 0, 0, 0, 0, 0)), (24, 3, .iinc 2 1, (0, 0, 0, 0, 0, 0)), (27, 3, .goto (-23), (4, 0, 0, 0, 0, 0)),
  (30, 1, .iload_n 1, (0, 0, 0, 0, 0, 0)), (31, 1, .ireturn, (0, 0, 0, 0, 0, 0))]
def z_X0_writeTo : List zI := [
  (0, 1, .iload_n 2, (0, 0, 0, 0, 0, 0)), (1, 3, .ifCond .lt 12, (13, 0, 0, 0, 0, 0)), (4, 1, .iload_n 2, (0, 0, 0, 0, 0, 0)), (5, 1, .aload_n 1, (0, 0, 0, 0, 0, 0)), (6, 1, .arraylength, (0, 0, 0, 0, 0, 0)), (7, 2, .bipush 18, (0, 0, 0, 0, 0, 0)),
  (9, 1, .isub, (0, 0, 0, 0, 0, 0)), (10, 3, .if_icmp .le 4, (14, 0, 0, 0, 0, 0)), (13, 1, .return_, (0, 0, 0, 0, 0, 0)), (14, 1, .aload_n 0, (0, 0, 0, 0, 0, 0)), (15, 3, .getfield 9, (0, 1, 2, 0, 0, 0)), (18, 1, .iconst 0, (0, 0, 0, 0, 0, 0)),
  (19, 1, .aload_n 1, (0, 0, 0, 0, 0, 0)), (20, 1, .iload_n 2, (0, 0, 0, 0, 0, 0)), (21, 2, .bipush 6, (0, 0, 0, 0, 0, 0)), (23, 3, .invokestatic 37, (0, 3, 0, 0, 0, 0)), (26, 1, .aload_n 0, (0, 0, 0, 0, 0, 0)), (27, 3, .getfield 18, (0, 3, 2, 0, 0, 0)),
  (30, 1, .iconst 0, (0, 0, 0, 0, 0, 0)), (31, 1, .aload_n 1, (0, 0, 0, 0, 0, 0)), (32, 1, .iload_n 2, (0, 0, 0, 0, 0, 0)), (33, 2, .bipush 6, (0, 0, 0, 0, 0, 0)), (35, 1, .iadd, (0, 0, 0, 0, 0, 0)), (36, 2, .bipush 6, (0, 0, 0, 0, 0, 0)),
  (38, 3, .invokestatic 37, (0, 3, 0, 0, 0, 0)), (41, 1, .aload_n 0, (0, 0, 0, 0, 0, 0)), (42, 3, .getfield 21, (0, 4, 2, 0, 0, 0)), (45, 1, .iconst 0, (0, 0, 0, 0, 0, 0)), (46, 1, .aload_n 1, (0, 0, 0, 0, 0, 0)), (47, 1, .iload_n 2, (0, 0, 0, 0, 0, 0)),
  (48, 2, .bipush 12, (0, 0, 0, 0, 0, 0)), (50, 1, .iadd, (0, 0, 0, 0, 0, 0)), (51, 2, .bipush 6, (0, 0, 0, 0, 0, 0)), (53, 3, .invokestatic 37, (0, 3, 0, 0, 0, 0)), (56, 1, .return_, (0, 0, 0, 0, 0, 0))]
def z_X0_readFrom : List zI := [
  (0, 1, .iload_n 2, (0, 0, 0, 0, 0, 0)), (1, 3, .ifCond .lt 12, (13, 0, 0, 0, 0, 0)), (4, 1, .iload_n 2, (0, 0, 0, 0, 0, 0)), (5, 1, .aload_n 1, (0, 0, 0, 0, 0, 0)), (6, 1, .arraylength, (0, 0, 0, 0, 0, 0)), (7, 2, .bipush 18, (0, 0, 0, 0, 0, 0)),
  (9, 1, .isub, (0, 0, 0, 0, 0, 0)), (10, 3, .if_icmp .le 4, (14, 0, 0, 0, 0, 0)), (13, 1, .return_, (0, 0, 0, 0, 0, 0)), (14, 1, .aload_n 0, (0, 0, 0, 0, 0, 0)), (15, 3, .invokevirtual 68, (13, 0, 0, 0, 1, 0)), (18, 1, .iconst 0, (0, 0, 0, 0, 0, 0)),
  (19, 1, .istore_n 3, (0, 0, 0, 0, 0, 0)), (20, 1, .iload_n 3, (0, 0, 0, 0, 0, 0)), (21, 1, .aload_n 0, (0, 0, 0, 0, 0, 0)), (22, 3, .getfield 28, (0, 0, 2, 0, 0, 0)), (25, 3, .getfield 64, (1, 1, 0, 1, 0, 0)), (28, 3, .if_icmp .ge 19, (47, 0, 0, 0, 0, 0)),
  (31, 1, .aload_n 0, (0, 0, 0, 0, 0, 0)), (32, 1, .iload_n 3, (0, 0, 0, 0, 0, 0)), (33, 1, .aload_n 1, (0, 0, 0, 0, 0, 0)), (34, 1, .iload_n 2, (0, 0, 0, 0, 0, 0)), (35, 1, .iload_n 3, (0, 0, 0, 0, 0, 0)), (36, 1, .iadd, (0, 0, 0, 0, 0, 0)),
  (37, 1, .iaload, (0, 0, 0, 0, 0, 0)), (38, 3, .invokevirtual 71, (11, 0, 2, 0, 3, 0)), (41, 3, .iinc 3 1, (0, 0, 0, 0, 0, 0)), (44, 3, .goto (-24), (20, 0, 0, 0, 0, 0)), (47, 1, .aload_n 1, (0, 0, 0, 0, 0, 0)), (48, 1, .iload_n 2, (0, 0, 0, 0, 0, 0)),
  (49, 2, .bipush 6, (0, 0, 0, 0, 0, 0)), (51, 1, .iadd, (0, 0, 0, 0, 0, 0)), (52, 1, .aload_n 0, (0, 0, 0, 0, 0, 0)), (53, 3, .getfield 18, (0, 3, 2, 0, 0, 0)), (56, 1, .iconst 0, (0, 0, 0, 0, 0, 0)), (57, 2, .bipush 6, (0, 0, 0, 0, 0, 0)),
  (59, 3, .invokestatic 37, (0, 3, 0, 0, 0, 0)), (62, 1, .aload_n 1, (0, 0, 0, 0, 0, 0)), (63, 1, .iload_n 2, (0, 0, 0, 0, 0, 0)), (64, 2, .bipush 12, (0, 0, 0, 0, 0, 0)), (66, 1, .iadd, (0, 0, 0, 0, 0, 0)), (67, 1, .aload_n 0, (0, 0, 0, 0, 0, 0)),
  (68, 3, .getfield 21, (0, 4, 2, 0, 0, 0)), (71, 1, .iconst 0, (0, 0, 0, 0, 0, 0)), (72, 2, .bipush 6, (0, 0, 0, 0, 0, 0)), (74, 3, .invokestatic 37, (0, 3, 0, 0, 0, 0)), (77, 1, .return_, (0, 0, 0, 0, 0, 0))]
def z_X0_isFree : List zI := [
  (0, 1, .aload_n 0, (0, 0, 0, 0, 0, 0)), (1, 3, .getfield 28, (0, 0, 2, 0, 0, 0)), (4, 1, .iload_n 1, (0, 0, 0, 0, 0, 0)), (5, 3, .invokevirtual 75, (32, 0, 1, 1, 2, 1)), (8, 3, .ifCond .eq 18, (26, 0, 0, 0, 0, 0)), (11, 1, .aload_n 0, (0, 0, 0, 0, 0, 0)),
  (12, 3, .getfield 15, (0, 2, 2, 0, 0, 0)), (15, 1, .iload_n 1, (0, 0, 0, 0, 0, 0)), (16, 1, .iaload, (0, 0, 0, 0, 0, 0)), (17, 2, .bipush (-9), (0, 0, 0, 0, 0, 0)), (19, 3, .if_icmp .ne 7, (26, 0, 0, 0, 0, 0)), (22, 1, .iconst 1, (0, 0, 0, 0, 0, 0)),
  (23, 3, .goto 4, (27, 0, 0, 0, 0, 0)), (26, 1, .iconst 0, (0, 0, 0, 0, 0, 0)), (27, 1, .ireturn, (1, 0, 0, 0, 0, 0))]
def z_X0_hangs : List zI := [
  (0, 1, .aload_n 0, (0, 0, 0, 0, 0, 0)), (1, 3, .getfield 9, (0, 1, 2, 0, 0, 0)), (4, 1, .iload_n 1, (0, 0, 0, 0, 0, 0)), (5, 1, .iaload, (0, 0, 0, 0, 0, 0)), (6, 2, .bipush (-9), (0, 0, 0, 0, 0, 0)), (8, 3, .if_icmp .eq 7, (15, 0, 0, 0, 0, 0)),
  (11, 1, .iconst 1, (0, 0, 0, 0, 0, 0)), (12, 3, .goto 4, (16, 0, 0, 0, 0, 0)), (15, 1, .iconst 0, (0, 0, 0, 0, 0, 0)), (16, 1, .ireturn, (1, 0, 0, 0, 0, 0))]
def z_X0_move : List zI := [
  (0, 1, .aload_n 0, (0, 0, 0, 0, 0, 0)), (1, 3, .getfield 28, (0, 0, 2, 0, 0, 0)), (4, 1, .aload_n 0, (0, 0, 0, 0, 0, 0)), (5, 3, .getfield 9, (0, 1, 2, 0, 0, 0)), (8, 1, .iload_n 1, (0, 0, 0, 0, 0, 0)), (9, 1, .iaload, (0, 0, 0, 0, 0, 0)),
  (10, 3, .invokevirtual 75, (32, 0, 1, 1, 2, 1)), (13, 3, .ifCond .eq 16, (29, 0, 0, 0, 0, 0)), (16, 1, .aload_n 0, (0, 0, 0, 0, 0, 0)), (17, 3, .getfield 15, (0, 2, 2, 0, 0, 0)), (20, 1, .aload_n 0, (0, 0, 0, 0, 0, 0)), (21, 3, .getfield 9, (0, 1, 2, 0, 0, 0)),
  (24, 1, .iload_n 1, (0, 0, 0, 0, 0, 0)), (25, 1, .iaload, (0, 0, 0, 0, 0, 0)), (26, 2, .bipush (-9), (0, 0, 0, 0, 0, 0)), (28, 1, .iastore, (0, 0, 0, 0, 0, 0)), (29, 1, .aload_n 0, (0, 0, 0, 0, 0, 0)), (30, 3, .getfield 9, (0, 1, 2, 0, 0, 0)),
  (33, 1, .iload_n 1, (0, 0, 0, 0, 0, 0)), (34, 1, .iload_n 2, (0, 0, 0, 0, 0, 0)), (35, 1, .iastore, (0, 0, 0, 0, 0, 0)), (36, 1, .aload_n 0, (0, 0, 0, 0, 0, 0)), (37, 3, .getfield 28, (0, 0, 2, 0, 0, 0)), (40, 1, .iload_n 2, (0, 0, 0, 0, 0, 0)),
  (41, 3, .invokevirtual 75, (32, 0, 1, 1, 2, 1)), (44, 3, .ifCond .eq 10, (54, 0, 0, 0, 0, 0)), (47, 1, .aload_n 0, (0, 0, 0, 0, 0, 0)), (48, 3, .getfield 15, (0, 2, 2, 0, 0, 0)), (51, 1, .iload_n 2, (0, 0, 0, 0, 0, 0)), (52, 1, .iload_n 1, (0, 0, 0, 0, 0, 0)),
  (53, 1, .iastore, (0, 0, 0, 0, 0, 0)), (54, 1, .return_, (0, 0, 0, 0, 0, 0))]
def z_X0_swap : List zI := [
  (0, 1, .aload_n 0, (0, 0, 0, 0, 0, 0)), (1, 3, .getfield 9, (0, 1, 2, 0, 0, 0)), (4, 1, .iload_n 1, (0, 0, 0, 0, 0, 0)), (5, 1, .iaload, (0, 0, 0, 0, 0, 0)), (6, 1, .istore_n 3, (0, 0, 0, 0, 0, 0)), (7, 1, .aload_n 0, (0, 0, 0, 0, 0, 0)),
  (8, 3, .getfield 9, (0, 1, 2, 0, 0, 0)), (11, 1, .iload_n 2, (0, 0, 0, 0, 0, 0)), (12, 1, .iaload, (0, 0, 0, 0, 0, 0)), (13, 2, .istore 4, (0, 0, 0, 0, 0, 0)), (15, 1, .aload_n 0, (0, 0, 0, 0, 0, 0)), (16, 1, .iload_n 1, (0, 0, 0, 0, 0, 0)),
  (17, 2, .bipush (-9), (0, 0, 0, 0, 0, 0)), (19, 3, .invokevirtual 71, (11, 0, 2, 0, 3, 0)), (22, 1, .aload_n 0, (0, 0, 0, 0, 0, 0)), (23, 1, .iload_n 2, (0, 0, 0, 0, 0, 0)), (24, 1, .iload_n 3, (0, 0, 0, 0, 0, 0)), (25, 3, .invokevirtual 71, (11, 0, 2, 0, 3, 0)),
  (28, 1, .aload_n 0, (0, 0, 0, 0, 0, 0)), (29, 1, .iload_n 1, (0, 0, 0, 0, 0, 0)), (30, 2, .iload 4, (0, 0, 0, 0, 0, 0)), (32, 3, .invokevirtual 71, (11, 0, 2, 0, 3, 0)), (35, 1, .return_, (0, 0, 0, 0, 0, 0))]
def z_X0_takeAllDown : List zI := [
  (0, 1, .aload_n 0, (0, 0, 0, 0, 0, 0)), (1, 3, .getfield 9, (0, 1, 2, 0, 0, 0)), (4, 2, .bipush (-9), (0, 0, 0, 0, 0, 0)), (6, 3, .invokestatic 43, (129, 2, 2, 0, 4, 0)), (9, 1, .aload_n 0, (0, 0, 0, 0, 0, 0)), (10, 3, .getfield 15, (0, 2, 2, 0, 0, 0)),
  (13, 2, .bipush (-9), (0, 0, 0, 0, 0, 0)), (15, 3, .invokestatic 43, (129, 2, 2, 0, 4, 0)), (18, 1, .return_, (0, 0, 0, 0, 0, 0))]
def z_X0_hangBy : List zI := [
  (0, 1, .aload_n 0, (0, 0, 0, 0, 0, 0)), (1, 3, .invokevirtual 68, (13, 0, 0, 0, 1, 0)), (4, 1, .iconst 0, (0, 0, 0, 0, 0, 0)), (5, 1, .istore_n 2, (0, 0, 0, 0, 0, 0)), (6, 1, .iload_n 2, (0, 0, 0, 0, 0, 0)), (7, 1, .aload_n 0, (0, 0, 0, 0, 0, 0)),
  (8, 3, .getfield 28, (0, 0, 2, 0, 0, 0)), (11, 3, .getfield 64, (1, 1, 0, 1, 0, 0)), (14, 3, .if_icmp .ge 31, (45, 0, 0, 0, 0, 0)), (17, 1, .aload_n 1, (0, 0, 0, 0, 0, 0)), (18, 1, .iload_n 2, (0, 0, 0, 0, 0, 0)), (19, 3, .invokevirtual 79, (60, 0, 1, 1, 2, 4)),
  (22, 1, .istore_n 3, (0, 0, 0, 0, 0, 0)), (23, 1, .aload_n 0, (0, 0, 0, 0, 0, 0)), (24, 1, .iload_n 3, (0, 0, 0, 0, 0, 0)), (25, 3, .invokevirtual 85, (9, 0, 1, 1, 2, 0)), (28, 3, .ifCond .ne 5, (33, 0, 0, 0, 0, 0)), (31, 1, .iconst 0, (0, 0, 0, 0, 0, 0)),
  (32, 1, .ireturn, (1, 0, 0, 0, 0, 0)), (33, 1, .aload_n 0, (0, 0, 0, 0, 0, 0)), (34, 1, .iload_n 2, (0, 0, 0, 0, 0, 0)), (35, 1, .iload_n 3, (0, 0, 0, 0, 0, 0)), (36, 3, .invokevirtual 71, (11, 0, 2, 0, 3, 0)), (39, 3, .iinc 2 1, (0, 0, 0, 0, 0, 0)),
  (42, 3, .goto (-36), (6, 8, 0, 0, 0, 0)), (45, 1, .iconst 1, (0, 0, 0, 0, 0, 0)), (46, 1, .ireturn, (1, 0, 0, 0, 0, 0))]
def z_X0_hangByFirstPlan : List zI := [
  (0, 1, .aload_n 0, (0, 0, 0, 0, 0, 0)), (1, 3, .invokevirtual 68, (13, 0, 0, 0, 1, 0)), (4, 1, .iconst 0, (0, 0, 0, 0, 0, 0)), (5, 1, .istore_n 1, (0, 0, 0, 0, 0, 0)), (6, 1, .iload_n 1, (0, 0, 0, 0, 0, 0)), (7, 1, .aload_n 0, (0, 0, 0, 0, 0, 0)),
  (8, 3, .getfield 28, (0, 0, 2, 0, 0, 0)), (11, 3, .getfield 64, (1, 1, 0, 1, 0, 0)), (14, 3, .if_icmp .ge 15, (29, 0, 0, 0, 0, 0)), (17, 1, .aload_n 0, (0, 0, 0, 0, 0, 0)), (18, 1, .iload_n 1, (0, 0, 0, 0, 0, 0)), (19, 1, .iload_n 1, (0, 0, 0, 0, 0, 0)),
  (20, 3, .invokevirtual 71, (11, 0, 2, 0, 3, 0)), (23, 3, .iinc 1 1, (0, 0, 0, 0, 0, 0)), (26, 3, .goto (-20), (6, 0, 0, 0, 0, 0)), (29, 1, .return_, (0, 0, 0, 0, 0, 0))]
def z_X0_hangByNextPlan : List zI := [
  (0, 1, .aload_n 0, (0, 0, 0, 0, 0, 0)), (1, 3, .getfield 28, (0, 0, 2, 0, 0, 0)), (4, 3, .getfield 64, (1, 1, 0, 1, 0, 0)), (7, 1, .iconst 1, (0, 0, 0, 0, 0, 0)), (8, 1, .isub, (0, 0, 0, 0, 0, 0)), (9, 1, .istore_n 1, (0, 0, 0, 0, 0, 0)),
  (10, 1, .iload_n 1, (0, 0, 0, 0, 0, 0)), (11, 3, .ifCond .lt 17, (28, 0, 0, 0, 0, 0)), (14, 1, .aload_n 0, (0, 0, 0, 0, 0, 0)), (15, 1, .iload_n 1, (0, 0, 0, 0, 0, 0)), (16, 3, .invokevirtual 88, (17, 0, 1, 1, 3, 0)), (19, 3, .ifCond .ne 9, (28, 0, 0, 0, 0, 0)),
  (22, 3, .iinc 1 (-1), (0, 0, 0, 0, 0, 0)), (25, 3, .goto (-15), (10, 0, 0, 0, 0, 0)), (28, 1, .iload_n 1, (0, 0, 0, 0, 0, 0)), (29, 1, .iconst 1, (0, 0, 0, 0, 0, 0)), (30, 1, .iadd, (0, 0, 0, 0, 0, 0)), (31, 1, .istore_n 2, (0, 0, 0, 0, 0, 0)),
  (32, 1, .iload_n 2, (0, 0, 0, 0, 0, 0)), (33, 1, .aload_n 0, (0, 0, 0, 0, 0, 0)), (34, 3, .getfield 28, (0, 0, 2, 0, 0, 0)), (37, 3, .getfield 64, (1, 1, 0, 1, 0, 0)), (40, 3, .if_icmp .ge 15, (55, 0, 0, 0, 0, 0)), (43, 1, .aload_n 0, (0, 0, 0, 0, 0, 0)),
  (44, 1, .iload_n 2, (0, 0, 0, 0, 0, 0)), (45, 3, .invokevirtual 88, (17, 0, 1, 1, 3, 0)), (48, 1, .pop, (0, 0, 0, 0, 0, 0)), (49, 3, .iinc 2 1, (0, 0, 0, 0, 0, 0)), (52, 3, .goto (-20), (32, 0, 0, 0, 0, 0)), (55, 1, .return_, (0, 0, 0, 0, 0, 0))]
def z_X0_moveOn : List zI := [
  (0, 1, .iconst (-1), (0, 0, 0, 0, 0, 0)), (1, 1, .aload_n 0, (0, 0, 0, 0, 0, 0)), (2, 3, .getfield 9, (0, 1, 2, 0, 0, 0)), (5, 1, .iload_n 1, (0, 0, 0, 0, 0, 0)), (6, 1, .iaload, (0, 0, 0, 0, 0, 0)), (7, 3, .invokestatic 91, (0, 6, 0, 0, 0, 0)),
  (10, 1, .iconst 1, (0, 0, 0, 0, 0, 0)), (11, 1, .iadd, (0, 0, 0, 0, 0, 0)), (12, 1, .istore_n 2, (0, 0, 0, 0, 0, 0)), (13, 1, .iload_n 2, (0, 0, 0, 0, 0, 0)), (14, 1, .aload_n 0, (0, 0, 0, 0, 0, 0)), (15, 3, .getfield 28, (0, 0, 2, 0, 0, 0)),
  (18, 3, .getfield 97, (1, 0, 0, 1, 0, 0)), (21, 3, .if_icmp .ge 25, (46, 0, 0, 0, 0, 0)), (24, 1, .aload_n 0, (0, 0, 0, 0, 0, 0)), (25, 1, .iload_n 2, (0, 0, 0, 0, 0, 0)), (26, 3, .invokevirtual 85, (9, 0, 1, 1, 2, 0)), (29, 3, .ifCond .eq 11, (40, 0, 0, 0, 0, 0)),
  (32, 1, .aload_n 0, (0, 0, 0, 0, 0, 0)), (33, 1, .iload_n 1, (0, 0, 0, 0, 0, 0)), (34, 1, .iload_n 2, (0, 0, 0, 0, 0, 0)), (35, 3, .invokevirtual 71, (11, 0, 2, 0, 3, 0)), (38, 1, .iconst 1, (0, 0, 0, 0, 0, 0)), (39, 1, .ireturn, (1, 0, 0, 0, 0, 0)),
  (40, 3, .iinc 2 1, (0, 0, 0, 0, 0, 0)), (43, 3, .goto (-30), (13, 0, 0, 0, 0, 0)), (46, 1, .aload_n 0, (0, 0, 0, 0, 0, 0)), (47, 1, .iload_n 1, (0, 0, 0, 0, 0, 0)), (48, 2, .bipush (-9), (0, 0, 0, 0, 0, 0)), (50, 3, .invokevirtual 71, (11, 0, 2, 0, 3, 0)),
  (53, 1, .iconst 0, (0, 0, 0, 0, 0, 0)), (54, 1, .ireturn, (1, 0, 0, 0, 0, 0))]
def z_X0_messmatePairs : List zI := [
  (0, 1, .iconst 0, (0, 0, 0, 0, 0, 0)), (1, 1, .istore_n 1, (0, 0, 0, 0, 0, 0)), (2, 1, .iconst 0, (0, 0, 0, 0, 0, 0)), (3, 1, .istore_n 2, (0, 0, 0, 0, 0, 0)), (4, 1, .iload_n 2, (0, 0, 0, 0, 0, 0)), (5, 1, .iconst 1, (0, 0, 0, 0, 0, 0)),
  (6, 1, .iadd, (0, 0, 0, 0, 0, 0)), (7, 1, .aload_n 0, (0, 0, 0, 0, 0, 0)), (8, 3, .getfield 28, (0, 0, 2, 0, 0, 0)), (11, 3, .getfield 97, (1, 0, 0, 1, 0, 0)), (14, 3, .if_icmp .ge 74, (88, 0, 0, 0, 0, 0)), (17, 1, .aload_n 0, (0, 0, 0, 0, 0, 0)),
  (18, 3, .getfield 15, (0, 2, 2, 0, 0, 0)), (21, 1, .iload_n 2, (0, 0, 0, 0, 0, 0)), (22, 1, .iaload, (0, 0, 0, 0, 0, 0)), (23, 1, .istore_n 3, (0, 0, 0, 0, 0, 0)), (24, 1, .aload_n 0, (0, 0, 0, 0, 0, 0)), (25, 3, .getfield 15, (0, 2, 2, 0, 0, 0)),
  (28, 1, .iload_n 2, (0, 0, 0, 0, 0, 0)), (29, 1, .iconst 1, (0, 0, 0, 0, 0, 0)), (30, 1, .iadd, (0, 0, 0, 0, 0, 0)), (31, 1, .iaload, (0, 0, 0, 0, 0, 0)), (32, 2, .istore 4, (0, 0, 0, 0, 0, 0)), (34, 1, .aload_n 0, (0, 0, 0, 0, 0, 0)),
  (35, 3, .getfield 28, (0, 0, 2, 0, 0, 0)), (38, 1, .iload_n 3, (0, 0, 0, 0, 0, 0)), (39, 3, .invokevirtual 99, (33, 0, 1, 1, 2, 1)), (42, 3, .ifCond .eq 40, (82, 0, 0, 0, 0, 0)), (45, 1, .aload_n 0, (0, 0, 0, 0, 0, 0)), (46, 3, .getfield 28, (0, 0, 2, 0, 0, 0)),
  (49, 2, .iload 4, (0, 0, 0, 0, 0, 0)), (51, 3, .invokevirtual 99, (33, 0, 1, 1, 2, 1)), (54, 3, .ifCond .eq 28, (82, 0, 0, 0, 0, 0)), (57, 1, .aload_n 0, (0, 0, 0, 0, 0, 0)), (58, 3, .getfield 28, (0, 0, 2, 0, 0, 0)), (61, 3, .getfield 58, (1, 6, 2, 1, 0, 0)),
  (64, 1, .iload_n 3, (0, 0, 0, 0, 0, 0)), (65, 1, .iaload, (0, 0, 0, 0, 0, 0)), (66, 1, .aload_n 0, (0, 0, 0, 0, 0, 0)), (67, 3, .getfield 28, (0, 0, 2, 0, 0, 0)), (70, 3, .getfield 58, (1, 6, 2, 1, 0, 0)), (73, 2, .iload 4, (0, 0, 0, 0, 0, 0)),
  (75, 1, .iaload, (0, 0, 0, 0, 0, 0)), (76, 3, .if_icmp .ne 6, (82, 0, 0, 0, 0, 0)), (79, 3, .iinc 1 1, (0, 0, 0, 0, 0, 0)), (82, 3, .iinc 2 1, (0, 0, 0, 0, 0, 0)), (85, 3, .goto (-81), (4, 24, 0, 0, 0, 0)), (88, 1, .iload_n 1, (0, 0, 0, 0, 0, 0)),
  (89, 1, .ireturn, (0, 0, 0, 0, 0, 0))]
def z_X0_isIn : List zI := [
  (0, 1, .aload_n 0, (0, 0, 0, 0, 0, 0)), (1, 3, .getfield 9, (0, 1, 2, 0, 0, 0)), (4, 1, .iload_n 1, (0, 0, 0, 0, 0, 0)), (5, 1, .iaload, (0, 0, 0, 0, 0, 0)), (6, 2, .bipush (-9), (0, 0, 0, 0, 0, 0)), (8, 3, .if_icmp .eq 26, (34, 0, 0, 0, 0, 0)),
  (11, 1, .iload_n 2, (0, 0, 0, 0, 0, 0)), (12, 3, .ifCond .eq 18, (30, 0, 0, 0, 0, 0)), (15, 1, .aload_n 0, (0, 0, 0, 0, 0, 0)), (16, 3, .getfield 28, (0, 0, 2, 0, 0, 0)), (19, 3, .getfield 55, (1, 5, 2, 1, 0, 0)), (22, 1, .iload_n 1, (0, 0, 0, 0, 0, 0)),
  (23, 1, .iaload, (0, 0, 0, 0, 0, 0)), (24, 1, .iload_n 2, (0, 0, 0, 0, 0, 0)), (25, 1, .iconst 1, (0, 0, 0, 0, 0, 0)), (26, 1, .isub, (0, 0, 0, 0, 0, 0)), (27, 3, .if_icmp .eq 7, (34, 0, 0, 0, 0, 0)), (30, 1, .iconst 1, (0, 0, 0, 0, 0, 0)),
  (31, 3, .goto 4, (35, 0, 0, 0, 0, 0)), (34, 1, .iconst 0, (0, 0, 0, 0, 0, 0)), (35, 1, .ireturn, (1, 0, 0, 0, 0, 0))]
def z_X0_howManyIn : List zI := [
  (0, 1, .iconst 0, (0, 0, 0, 0, 0, 0)), (1, 1, .istore_n 2, (0, 0, 0, 0, 0, 0)), (2, 1, .iconst 0, (0, 0, 0, 0, 0, 0)), (3, 1, .istore_n 3, (0, 0, 0, 0, 0, 0)), (4, 1, .iload_n 3, (0, 0, 0, 0, 0, 0)), (5, 1, .aload_n 0, (0, 0, 0, 0, 0, 0)),
  (6, 3, .getfield 28, (0, 0, 2, 0, 0, 0)), (9, 3, .getfield 64, (1, 1, 0, 1, 0, 0)), (12, 3, .if_icmp .ge 21, (33, 0, 0, 0, 0, 0)), (15, 1, .aload_n 0, (0, 0, 0, 0, 0, 0)), (16, 1, .iload_n 3, (0, 0, 0, 0, 0, 0)), (17, 1, .iload_n 1, (0, 0, 0, 0, 0, 0)),
  (18, 3, .invokevirtual 102, (19, 0, 2, 1, 3, 0)), (21, 3, .ifCond .eq 6, (27, 0, 0, 0, 0, 0)), (24, 3, .iinc 2 1, (0, 0, 0, 0, 0, 0)), (27, 3, .iinc 3 1, (0, 0, 0, 0, 0, 0)), (30, 3, .goto (-26), (4, 0, 0, 0, 0, 0)), (33, 1, .iload_n 2, (0, 0, 0, 0, 0, 0)),
  (34, 1, .ireturn, (0, 0, 0, 0, 0, 0))]
def z_X0_bitOfWhoIsInAt : List zI := [
  (0, 1, .aload_n 0, (0, 0, 0, 0, 0, 0)), (1, 3, .getfield 28, (0, 0, 2, 0, 0, 0)), (4, 1, .iload_n 1, (0, 0, 0, 0, 0, 0)), (5, 3, .invokevirtual 75, (32, 0, 1, 1, 2, 1)), (8, 3, .ifCond .ne 5, (13, 0, 0, 0, 0, 0)), (11, 1, .iconst 0, (0, 0, 0, 0, 0, 0)),
  (12, 1, .ireturn, (0, 0, 0, 0, 0, 0)), (13, 1, .aload_n 0, (0, 0, 0, 0, 0, 0)), (14, 3, .getfield 15, (0, 2, 2, 0, 0, 0)), (17, 1, .iload_n 1, (0, 0, 0, 0, 0, 0)), (18, 1, .iaload, (0, 0, 0, 0, 0, 0)), (19, 1, .istore_n 3, (0, 0, 0, 0, 0, 0)),
  (20, 1, .aload_n 0, (0, 0, 0, 0, 0, 0)), (21, 3, .getfield 28, (0, 0, 2, 0, 0, 0)), (24, 1, .iload_n 3, (0, 0, 0, 0, 0, 0)), (25, 3, .invokevirtual 99, (33, 0, 1, 1, 2, 1)), (28, 3, .ifCond .eq 18, (46, 0, 0, 0, 0, 0)), (31, 1, .aload_n 0, (0, 0, 0, 0, 0, 0)),
  (32, 1, .iload_n 3, (0, 0, 0, 0, 0, 0)), (33, 1, .iload_n 2, (0, 0, 0, 0, 0, 0)), (34, 3, .invokevirtual 102, (19, 0, 2, 1, 3, 0)), (37, 3, .ifCond .eq 9, (46, 0, 0, 0, 0, 0)), (40, 1, .iconst 1, (0, 0, 0, 0, 0, 0)), (41, 1, .iload_n 3, (0, 0, 0, 0, 0, 0)),
  (42, 1, .ishl, (0, 0, 0, 0, 0, 0)), (43, 3, .goto 4, (47, 0, 0, 0, 0, 0)), (46, 1, .iconst 0, (0, 0, 0, 0, 0, 0)), (47, 1, .ireturn, (0, 0, 0, 0, 0, 0))]
def z_X0_neighbourBits : List zI := [
  (0, 1, .aload_n 0, (0, 0, 0, 0, 0, 0)), (1, 1, .iload_n 1, (0, 0, 0, 0, 0, 0)), (2, 3, .invokevirtual 106, (10, 0, 1, 1, 2, 0)), (5, 3, .ifCond .ne 5, (10, 0, 0, 0, 0, 0)), (8, 1, .iconst 0, (0, 0, 0, 0, 0, 0)), (9, 1, .ireturn, (0, 0, 0, 0, 0, 0)),
  (10, 1, .aload_n 0, (0, 0, 0, 0, 0, 0)), (11, 1, .aload_n 0, (0, 0, 0, 0, 0, 0)), (12, 3, .getfield 9, (0, 1, 2, 0, 0, 0)), (15, 1, .iload_n 1, (0, 0, 0, 0, 0, 0)), (16, 1, .iaload, (0, 0, 0, 0, 0, 0)), (17, 1, .iconst 1, (0, 0, 0, 0, 0, 0)),
  (18, 1, .isub, (0, 0, 0, 0, 0, 0)), (19, 1, .iload_n 2, (0, 0, 0, 0, 0, 0)), (20, 3, .invokevirtual 109, (21, 0, 2, 1, 4, 0)), (23, 1, .aload_n 0, (0, 0, 0, 0, 0, 0)), (24, 1, .aload_n 0, (0, 0, 0, 0, 0, 0)), (25, 3, .getfield 9, (0, 1, 2, 0, 0, 0)),
  (28, 1, .iload_n 1, (0, 0, 0, 0, 0, 0)), (29, 1, .iaload, (0, 0, 0, 0, 0, 0)), (30, 1, .iconst 1, (0, 0, 0, 0, 0, 0)), (31, 1, .iadd, (0, 0, 0, 0, 0, 0)), (32, 1, .iload_n 2, (0, 0, 0, 0, 0, 0)), (33, 3, .invokevirtual 109, (21, 0, 2, 1, 4, 0)),
  (36, 1, .ior, (0, 0, 0, 0, 0, 0)), (37, 1, .ireturn, (0, 0, 0, 0, 0, 0))]
def z_X0_wakings : List zI := [
  (0, 1, .aload_n 0, (0, 0, 0, 0, 0, 0)), (1, 1, .iload_n 1, (0, 0, 0, 0, 0, 0)), (2, 1, .iload_n 2, (0, 0, 0, 0, 0, 0)), (3, 3, .invokevirtual 102, (19, 0, 2, 1, 3, 0)), (6, 3, .ifCond .ne 5, (11, 0, 0, 0, 0, 0)), (9, 1, .iconst 0, (0, 0, 0, 0, 0, 0)),
  (10, 1, .ireturn, (0, 0, 0, 0, 0, 0)), (11, 1, .aload_n 0, (0, 0, 0, 0, 0, 0)), (12, 3, .getfield 9, (0, 1, 2, 0, 0, 0)), (15, 1, .iload_n 1, (0, 0, 0, 0, 0, 0)), (16, 1, .iaload, (0, 0, 0, 0, 0, 0)), (17, 1, .istore_n 3, (0, 0, 0, 0, 0, 0)),
  (18, 1, .aload_n 0, (0, 0, 0, 0, 0, 0)), (19, 3, .getfield 28, (0, 0, 2, 0, 0, 0)), (22, 1, .iload_n 3, (0, 0, 0, 0, 0, 0)), (23, 3, .invokevirtual 112, (41, 0, 1, 1, 2, 1)), (26, 1, .aload_n 0, (0, 0, 0, 0, 0, 0)), (27, 1, .iload_n 3, (0, 0, 0, 0, 0, 0)),
  (28, 1, .iconst 1, (0, 0, 0, 0, 0, 0)), (29, 1, .isub, (0, 0, 0, 0, 0, 0)), (30, 1, .iload_n 1, (0, 0, 0, 0, 0, 0)), (31, 1, .iload_n 2, (0, 0, 0, 0, 0, 0)), (32, 3, .invokevirtual 115, (24, 0, 3, 1, 6, 0)), (35, 1, .iadd, (0, 0, 0, 0, 0, 0)),
  (36, 1, .aload_n 0, (0, 0, 0, 0, 0, 0)), (37, 1, .iload_n 3, (0, 0, 0, 0, 0, 0)), (38, 1, .iconst 1, (0, 0, 0, 0, 0, 0)), (39, 1, .iadd, (0, 0, 0, 0, 0, 0)), (40, 1, .iload_n 1, (0, 0, 0, 0, 0, 0)), (41, 1, .iload_n 2, (0, 0, 0, 0, 0, 0)),
  (42, 3, .invokevirtual 115, (24, 0, 3, 1, 6, 0)), (45, 1, .iadd, (0, 0, 0, 0, 0, 0)), (46, 2, .istore 4, (0, 0, 0, 0, 0, 0)), (48, 1, .aload_n 0, (0, 0, 0, 0, 0, 0)), (49, 3, .getfield 28, (0, 0, 2, 0, 0, 0)), (52, 3, .getfield 52, (1, 3, 2, 1, 0, 0)),
  (55, 1, .iload_n 1, (0, 0, 0, 0, 0, 0)), (56, 1, .iaload, (0, 0, 0, 0, 0, 0)), (57, 1, .iconst 5, (0, 0, 0, 0, 0, 0)), (58, 3, .if_icmp .ne 14, (72, 0, 0, 0, 0, 0)), (61, 1, .iconst 2, (0, 0, 0, 0, 0, 0)), (62, 1, .iconst 0, (0, 0, 0, 0, 0, 0)),
  (63, 2, .iload 4, (0, 0, 0, 0, 0, 0)), (65, 3, .invokestatic 91, (0, 6, 0, 0, 0, 0)), (68, 1, .imul, (0, 0, 0, 0, 0, 0)), (69, 3, .goto 9, (78, 0, 0, 0, 0, 0)), (72, 1, .iconst 0, (0, 0, 0, 0, 0, 0)), (73, 2, .iload 4, (0, 0, 0, 0, 0, 0)),
  (75, 3, .invokestatic 91, (0, 6, 0, 0, 0, 0)), (78, 1, .ireturn, (0, 0, 0, 0, 0, 0))]
def z_X0_wakingsFrom : List zI := [
  (0, 1, .aload_n 0, (0, 0, 0, 0, 0, 0)), (1, 3, .getfield 28, (0, 0, 2, 0, 0, 0)), (4, 1, .iload_n 1, (0, 0, 0, 0, 0, 0)), (5, 3, .invokevirtual 75, (32, 0, 1, 1, 2, 1)), (8, 3, .ifCond .ne 5, (13, 0, 0, 0, 0, 0)), (11, 1, .iconst 0, (0, 0, 0, 0, 0, 0)),
  (12, 1, .ireturn, (0, 0, 0, 0, 0, 0)), (13, 1, .aload_n 0, (0, 0, 0, 0, 0, 0)), (14, 3, .getfield 15, (0, 2, 2, 0, 0, 0)), (17, 1, .iload_n 1, (0, 0, 0, 0, 0, 0)), (18, 1, .iaload, (0, 0, 0, 0, 0, 0)), (19, 2, .istore 4, (0, 0, 0, 0, 0, 0)),
  (21, 1, .aload_n 0, (0, 0, 0, 0, 0, 0)), (22, 3, .getfield 28, (0, 0, 2, 0, 0, 0)), (25, 2, .iload 4, (0, 0, 0, 0, 0, 0)), (27, 3, .invokevirtual 99, (33, 0, 1, 1, 2, 1)), (30, 3, .ifCond .eq 13, (43, 0, 0, 0, 0, 0)), (33, 1, .aload_n 0, (0, 0, 0, 0, 0, 0)),
  (34, 2, .iload 4, (0, 0, 0, 0, 0, 0)), (36, 1, .iload_n 3, (0, 0, 0, 0, 0, 0)), (37, 3, .invokevirtual 102, (19, 0, 2, 1, 3, 0)), (40, 3, .ifCond .ne 5, (45, 0, 0, 0, 0, 0)), (43, 1, .iconst 0, (0, 0, 0, 0, 0, 0)), (44, 1, .ireturn, (0, 0, 0, 0, 0, 0)),
  (45, 1, .aload_n 0, (0, 0, 0, 0, 0, 0)), (46, 3, .getfield 28, (0, 0, 2, 0, 0, 0)), (49, 3, .getfield 52, (1, 3, 2, 1, 0, 0)), (52, 2, .iload 4, (0, 0, 0, 0, 0, 0)), (54, 1, .iaload, (0, 0, 0, 0, 0, 0)), (55, 1, .iconst 2, (0, 0, 0, 0, 0, 0)),
  (56, 3, .if_icmp .ne 20, (76, 0, 0, 0, 0, 0)), (59, 1, .aload_n 0, (0, 0, 0, 0, 0, 0)), (60, 3, .getfield 28, (0, 0, 2, 0, 0, 0)), (63, 3, .getfield 52, (1, 3, 2, 1, 0, 0)), (66, 1, .iload_n 2, (0, 0, 0, 0, 0, 0)), (67, 1, .iaload, (0, 0, 0, 0, 0, 0)),
  (68, 1, .iconst 3, (0, 0, 0, 0, 0, 0)), (69, 3, .if_icmp .eq 7, (76, 0, 0, 0, 0, 0)), (72, 1, .iconst 1, (0, 0, 0, 0, 0, 0)), (73, 3, .goto 4, (77, 0, 0, 0, 0, 0)), (76, 1, .iconst 0, (0, 0, 0, 0, 0, 0)), (77, 2, .istore 5, (0, 0, 0, 0, 0, 0)),
  (79, 1, .aload_n 0, (0, 0, 0, 0, 0, 0)), (80, 3, .getfield 18, (0, 3, 2, 0, 0, 0)), (83, 1, .iload_n 2, (0, 0, 0, 0, 0, 0)), (84, 1, .iaload, (0, 0, 0, 0, 0, 0)), (85, 1, .aload_n 0, (0, 0, 0, 0, 0, 0)), (86, 3, .getfield 18, (0, 3, 2, 0, 0, 0)),
  (89, 2, .iload 4, (0, 0, 0, 0, 0, 0)), (91, 1, .iaload, (0, 0, 0, 0, 0, 0)), (92, 1, .isub, (0, 0, 0, 0, 0, 0)), (93, 3, .invokestatic 119, (0, 5, 0, 0, 0, 0)), (96, 1, .aload_n 0, (0, 0, 0, 0, 0, 0)), (97, 3, .getfield 28, (0, 0, 2, 0, 0, 0)),
  (100, 1, .iload_n 2, (0, 0, 0, 0, 0, 0)), (101, 3, .invokevirtual 122, (40, 0, 1, 1, 2, 1)), (104, 1, .iadd, (0, 0, 0, 0, 0, 0)), (105, 1, .aload_n 0, (0, 0, 0, 0, 0, 0)), (106, 3, .getfield 28, (0, 0, 2, 0, 0, 0)), (109, 2, .iload 4, (0, 0, 0, 0, 0, 0)),
  (111, 3, .invokevirtual 122, (40, 0, 1, 1, 2, 1)), (114, 1, .iadd, (0, 0, 0, 0, 0, 0)), (115, 2, .iload 5, (0, 0, 0, 0, 0, 0)), (117, 3, .ifCond .eq 7, (124, 0, 0, 0, 0, 0)), (120, 1, .iconst 2, (0, 0, 0, 0, 0, 0)), (121, 3, .goto 4, (125, 0, 0, 0, 0, 0)),
  (124, 1, .iconst 0, (0, 0, 0, 0, 0, 0)), (125, 1, .iadd, (0, 0, 0, 0, 0, 0)), (126, 1, .ireturn, (0, 0, 0, 0, 0, 0))]
def z_X0_allWakings : List zI := [
  (0, 1, .iconst 0, (0, 0, 0, 0, 0, 0)), (1, 1, .istore_n 2, (0, 0, 0, 0, 0, 0)), (2, 1, .iconst 0, (0, 0, 0, 0, 0, 0)), (3, 1, .istore_n 3, (0, 0, 0, 0, 0, 0)), (4, 1, .iload_n 3, (0, 0, 0, 0, 0, 0)), (5, 1, .aload_n 0, (0, 0, 0, 0, 0, 0)),
  (6, 3, .getfield 28, (0, 0, 2, 0, 0, 0)), (9, 3, .getfield 64, (1, 1, 0, 1, 0, 0)), (12, 3, .if_icmp .ge 18, (30, 0, 0, 0, 0, 0)), (15, 1, .iload_n 2, (0, 0, 0, 0, 0, 0)), (16, 1, .aload_n 0, (0, 0, 0, 0, 0, 0)), (17, 1, .iload_n 3, (0, 0, 0, 0, 0, 0)),
  (18, 1, .iload_n 1, (0, 0, 0, 0, 0, 0)), (19, 3, .invokevirtual 125, (23, 0, 2, 1, 5, 0)), (22, 1, .iadd, (0, 0, 0, 0, 0, 0)), (23, 1, .istore_n 2, (0, 0, 0, 0, 0, 0)), (24, 3, .iinc 3 1, (0, 0, 0, 0, 0, 0)), (27, 3, .goto (-23), (4, 0, 0, 0, 0, 0)),
  (30, 1, .iload_n 2, (0, 0, 0, 0, 0, 0)), (31, 1, .ireturn, (0, 0, 0, 0, 0, 0))]
def z_X0_mostWakings : List zI := [
  (0, 1, .iconst 0, (0, 0, 0, 0, 0, 0)), (1, 1, .istore_n 2, (0, 0, 0, 0, 0, 0)), (2, 1, .iconst 0, (0, 0, 0, 0, 0, 0)), (3, 1, .istore_n 3, (0, 0, 0, 0, 0, 0)), (4, 1, .iload_n 3, (0, 0, 0, 0, 0, 0)), (5, 1, .aload_n 0, (0, 0, 0, 0, 0, 0)),
  (6, 3, .getfield 28, (0, 0, 2, 0, 0, 0)), (9, 3, .getfield 64, (1, 1, 0, 1, 0, 0)), (12, 3, .if_icmp .ge 20, (32, 0, 0, 0, 0, 0)), (15, 1, .iload_n 2, (0, 0, 0, 0, 0, 0)), (16, 1, .aload_n 0, (0, 0, 0, 0, 0, 0)), (17, 1, .iload_n 3, (0, 0, 0, 0, 0, 0)),
  (18, 1, .iload_n 1, (0, 0, 0, 0, 0, 0)), (19, 3, .invokevirtual 125, (23, 0, 2, 1, 5, 0)), (22, 3, .invokestatic 91, (0, 6, 0, 0, 0, 0)), (25, 1, .istore_n 2, (0, 0, 0, 0, 0, 0)), (26, 3, .iinc 3 1, (0, 0, 0, 0, 0, 0)), (29, 3, .goto (-25), (4, 0, 0, 0, 0, 0)),
  (32, 1, .iload_n 2, (0, 0, 0, 0, 0, 0)), (33, 1, .ireturn, (0, 0, 0, 0, 0, 0))]
def z_X0_tire : List zI := [
  (0, 1, .iconst 0, (0, 0, 0, 0, 0, 0)), (1, 1, .istore_n 2, (0, 0, 0, 0, 0, 0)), (2, 1, .iconst 0, (0, 0, 0, 0, 0, 0)), (3, 1, .istore_n 3, (0, 0, 0, 0, 0, 0)), (4, 1, .iload_n 3, (0, 0, 0, 0, 0, 0)), (5, 1, .aload_n 0, (0, 0, 0, 0, 0, 0)),
  (6, 3, .getfield 28, (0, 0, 2, 0, 0, 0)), (9, 3, .getfield 64, (1, 1, 0, 1, 0, 0)), (12, 3, .if_icmp .ge 49, (61, 0, 0, 0, 0, 0)), (15, 1, .aload_n 0, (0, 0, 0, 0, 0, 0)), (16, 3, .getfield 21, (0, 4, 2, 0, 0, 0)), (19, 1, .iload_n 3, (0, 0, 0, 0, 0, 0)),
  (20, 1, .iaload, (0, 0, 0, 0, 0, 0)), (21, 2, .istore 4, (0, 0, 0, 0, 0, 0)), (23, 1, .aload_n 0, (0, 0, 0, 0, 0, 0)), (24, 3, .getfield 21, (0, 4, 2, 0, 0, 0)), (27, 1, .iload_n 3, (0, 0, 0, 0, 0, 0)), (28, 2, .bipush 99, (0, 0, 0, 0, 0, 0)),
  (30, 2, .iload 4, (0, 0, 0, 0, 0, 0)), (32, 1, .aload_n 0, (0, 0, 0, 0, 0, 0)), (33, 1, .iload_n 3, (0, 0, 0, 0, 0, 0)), (34, 1, .iload_n 1, (0, 0, 0, 0, 0, 0)), (35, 3, .invokevirtual 125, (23, 0, 2, 1, 5, 0)), (38, 1, .iadd, (0, 0, 0, 0, 0, 0)),
  (39, 3, .invokestatic 128, (0, 7, 0, 0, 0, 0)), (42, 1, .iastore, (0, 0, 0, 0, 0, 0)), (43, 1, .iload_n 2, (0, 0, 0, 0, 0, 0)), (44, 1, .aload_n 0, (0, 0, 0, 0, 0, 0)), (45, 3, .getfield 21, (0, 4, 2, 0, 0, 0)), (48, 1, .iload_n 3, (0, 0, 0, 0, 0, 0)),
  (49, 1, .iaload, (0, 0, 0, 0, 0, 0)), (50, 2, .iload 4, (0, 0, 0, 0, 0, 0)), (52, 1, .isub, (0, 0, 0, 0, 0, 0)), (53, 1, .iadd, (0, 0, 0, 0, 0, 0)), (54, 1, .istore_n 2, (0, 0, 0, 0, 0, 0)), (55, 3, .iinc 3 1, (0, 0, 0, 0, 0, 0)),
  (58, 3, .goto (-54), (4, 16, 0, 0, 0, 0)), (61, 1, .iload_n 2, (0, 0, 0, 0, 0, 0)), (62, 1, .ireturn, (0, 0, 0, 0, 0, 0))]
def z_X0_inTheWayOf : List zI := [
  (0, 1, .aload_n 0, (0, 0, 0, 0, 0, 0)), (1, 1, .iload_n 1, (0, 0, 0, 0, 0, 0)), (2, 1, .iload_n 2, (0, 0, 0, 0, 0, 0)), (3, 3, .invokevirtual 131, (22, 0, 2, 1, 3, 0)), (6, 1, .istore_n 3, (0, 0, 0, 0, 0, 0)), (7, 1, .iconst 0, (0, 0, 0, 0, 0, 0)),
  (8, 2, .istore 4, (0, 0, 0, 0, 0, 0)), (10, 1, .iconst 0, (0, 0, 0, 0, 0, 0)), (11, 2, .istore 5, (0, 0, 0, 0, 0, 0)), (13, 2, .iload 5, (0, 0, 0, 0, 0, 0)), (15, 1, .aload_n 0, (0, 0, 0, 0, 0, 0)), (16, 3, .getfield 28, (0, 0, 2, 0, 0, 0)),
  (19, 3, .getfield 64, (1, 1, 0, 1, 0, 0)), (22, 3, .if_icmp .ge 34, (56, 0, 0, 0, 0, 0)), (25, 1, .iload_n 3, (0, 0, 0, 0, 0, 0)), (26, 1, .iconst 1, (0, 0, 0, 0, 0, 0)), (27, 2, .iload 5, (0, 0, 0, 0, 0, 0)), (29, 1, .ishl, (0, 0, 0, 0, 0, 0)),
  (30, 1, .iand, (0, 0, 0, 0, 0, 0)), (31, 3, .ifCond .eq 19, (50, 0, 0, 0, 0, 0)), (34, 2, .iload 4, (0, 0, 0, 0, 0, 0)), (36, 1, .iconst 1, (0, 0, 0, 0, 0, 0)), (37, 1, .aload_n 0, (0, 0, 0, 0, 0, 0)), (38, 3, .getfield 28, (0, 0, 2, 0, 0, 0)),
  (41, 2, .iload 5, (0, 0, 0, 0, 0, 0)), (43, 3, .invokevirtual 122, (40, 0, 1, 1, 2, 1)), (46, 1, .iadd, (0, 0, 0, 0, 0, 0)), (47, 1, .iadd, (0, 0, 0, 0, 0, 0)), (48, 2, .istore 4, (0, 0, 0, 0, 0, 0)), (50, 3, .iinc 5 1, (0, 0, 0, 0, 0, 0)),
  (53, 3, .goto (-40), (13, 0, 0, 0, 0, 0)), (56, 2, .iload 4, (0, 0, 0, 0, 0, 0)), (58, 1, .ireturn, (0, 0, 0, 0, 0, 0))]
def z_X0_firstToGetUp : List zI := [
  (0, 1, .iconst 0, (0, 0, 0, 0, 0, 0)), (1, 1, .istore_n 2, (0, 0, 0, 0, 0, 0)), (2, 1, .iload_n 2, (0, 0, 0, 0, 0, 0)), (3, 1, .aload_n 0, (0, 0, 0, 0, 0, 0)), (4, 3, .getfield 28, (0, 0, 2, 0, 0, 0)), (7, 3, .getfield 64, (1, 1, 0, 1, 0, 0)),
  (10, 3, .if_icmp .ge 29, (39, 0, 0, 0, 0, 0)), (13, 1, .aload_n 0, (0, 0, 0, 0, 0, 0)), (14, 1, .iload_n 2, (0, 0, 0, 0, 0, 0)), (15, 1, .iload_n 1, (0, 0, 0, 0, 0, 0)), (16, 3, .invokevirtual 102, (19, 0, 2, 1, 3, 0)), (19, 3, .ifCond .eq 14, (33, 0, 0, 0, 0, 0)),
  (22, 1, .aload_n 0, (0, 0, 0, 0, 0, 0)), (23, 1, .iload_n 2, (0, 0, 0, 0, 0, 0)), (24, 1, .iload_n 1, (0, 0, 0, 0, 0, 0)), (25, 3, .invokevirtual 134, (30, 0, 2, 1, 5, 0)), (28, 3, .ifCond .ne 5, (33, 0, 0, 0, 0, 0)), (31, 1, .iload_n 2, (0, 0, 0, 0, 0, 0)),
  (32, 1, .ireturn, (0, 0, 0, 0, 0, 0)), (33, 3, .iinc 2 1, (0, 0, 0, 0, 0, 0)), (36, 3, .goto (-34), (2, 0, 0, 0, 0, 0)), (39, 2, .bipush (-9), (0, 0, 0, 0, 0, 0)), (41, 1, .ireturn, (0, 0, 0, 0, 0, 0))]
def z_X0_hasBulkierNeighbour : List zI := [
  (0, 1, .aload_n 0, (0, 0, 0, 0, 0, 0)), (1, 1, .iload_n 1, (0, 0, 0, 0, 0, 0)), (2, 1, .iload_n 2, (0, 0, 0, 0, 0, 0)), (3, 3, .invokevirtual 131, (22, 0, 2, 1, 3, 0)), (6, 1, .istore_n 3, (0, 0, 0, 0, 0, 0)), (7, 1, .iconst 0, (0, 0, 0, 0, 0, 0)),
  (8, 2, .istore 4, (0, 0, 0, 0, 0, 0)), (10, 2, .iload 4, (0, 0, 0, 0, 0, 0)), (12, 1, .aload_n 0, (0, 0, 0, 0, 0, 0)), (13, 3, .getfield 28, (0, 0, 2, 0, 0, 0)), (16, 3, .getfield 64, (1, 1, 0, 1, 0, 0)), (19, 3, .if_icmp .ge 40, (59, 0, 0, 0, 0, 0)),
  (22, 1, .iload_n 3, (0, 0, 0, 0, 0, 0)), (23, 1, .iconst 1, (0, 0, 0, 0, 0, 0)), (24, 2, .iload 4, (0, 0, 0, 0, 0, 0)), (26, 1, .ishl, (0, 0, 0, 0, 0, 0)), (27, 1, .iand, (0, 0, 0, 0, 0, 0)), (28, 3, .ifCond .eq 25, (53, 0, 0, 0, 0, 0)),
  (31, 1, .aload_n 0, (0, 0, 0, 0, 0, 0)), (32, 3, .getfield 28, (0, 0, 2, 0, 0, 0)), (35, 2, .iload 4, (0, 0, 0, 0, 0, 0)), (37, 3, .invokevirtual 122, (40, 0, 1, 1, 2, 1)), (40, 1, .aload_n 0, (0, 0, 0, 0, 0, 0)), (41, 3, .getfield 28, (0, 0, 2, 0, 0, 0)),
  (44, 1, .iload_n 1, (0, 0, 0, 0, 0, 0)), (45, 3, .invokevirtual 122, (40, 0, 1, 1, 2, 1)), (48, 3, .if_icmp .le 5, (53, 0, 0, 0, 0, 0)), (51, 1, .iconst 1, (0, 0, 0, 0, 0, 0)), (52, 1, .ireturn, (1, 0, 0, 0, 0, 0)), (53, 3, .iinc 4 1, (0, 0, 0, 0, 0, 0)),
  (56, 3, .goto (-46), (10, 0, 0, 0, 0, 0)), (59, 1, .iconst 0, (0, 0, 0, 0, 0, 0)), (60, 1, .ireturn, (1, 0, 0, 0, 0, 0))]
def z_X1_init : List zI := [
  (0, 1, .aload_n 0, (0, 0, 0, 0, 0, 0)), (1, 3, .invokespecial 3, (0, 4, 0, 0, 0, 0)), (4, 1, .aload_n 0, (0, 0, 0, 0, 0, 0)), (5, 1, .iconst 0, (0, 0, 0, 0, 0, 0)), (6, 3, .putfield 9, (1, 0, 0, 0, 0, 0)), (9, 1, .aload_n 0, (0, 0, 0, 0, 0, 0)),
  (10, 1, .iconst 0, (0, 0, 0, 0, 0, 0)), (11, 3, .putfield 15, (1, 1, 0, 0, 0, 0)), (14, 1, .aload_n 0, (0, 0, 0, 0, 0, 0)), (15, 2, .bipush 7, (0, 0, 0, 0, 0, 0)), (17, 2, .newarray .int, (0, 0, 0, 0, 0, 0)), (19, 3, .putfield 18, (1, 2, 2, 0, 0, 0)),
  (22, 1, .aload_n 0, (0, 0, 0, 0, 0, 0)), (23, 2, .bipush 6, (0, 0, 0, 0, 0, 0)), (25, 2, .newarray .int, (0, 0, 0, 0, 0, 0)), (27, 3, .putfield 22, (1, 3, 2, 0, 0, 0)), (30, 1, .aload_n 0, (0, 0, 0, 0, 0, 0)), (31, 2, .bipush 6, (0, 0, 0, 0, 0, 0)),
  (33, 2, .newarray .int, (0, 0, 0, 0, 0, 0)), (35, 3, .putfield 25, (1, 4, 2, 0, 0, 0)), (38, 1, .aload_n 0, (0, 0, 0, 0, 0, 0)), (39, 2, .bipush 6, (0, 0, 0, 0, 0, 0)), (41, 2, .newarray .int, (0, 0, 0, 0, 0, 0)), (43, 3, .putfield 28, (1, 5, 2, 0, 0, 0)),
  (46, 1, .aload_n 0, (0, 0, 0, 0, 0, 0)), (47, 2, .bipush 6, (0, 0, 0, 0, 0, 0)), (49, 2, .newarray .int, (0, 0, 0, 0, 0, 0)), (51, 3, .putfield 31, (1, 6, 2, 0, 0, 0)), (54, 1, .return_, (0, 0, 0, 0, 0, 0))]
def z_X1_hasHook : List zI := [
  (0, 1, .iload_n 1, (0, 0, 0, 0, 0, 0)), (1, 3, .ifCond .lt 15, (16, 0, 0, 0, 0, 0)), (4, 1, .iload_n 1, (0, 0, 0, 0, 0, 0)), (5, 1, .aload_n 0, (0, 0, 0, 0, 0, 0)), (6, 3, .getfield 9, (1, 0, 0, 0, 0, 0)), (9, 3, .if_icmp .ge 7, (16, 0, 0, 0, 0, 0)),
  (12, 1, .iconst 1, (0, 0, 0, 0, 0, 0)), (13, 3, .goto 4, (17, 0, 0, 0, 0, 0)), (16, 1, .iconst 0, (0, 0, 0, 0, 0, 0)), (17, 1, .ireturn, (1, 0, 0, 0, 0, 0))]
def z_X1_hasMan : List zI := [
  (0, 1, .iload_n 1, (0, 0, 0, 0, 0, 0)), (1, 3, .ifCond .lt 15, (16, 0, 0, 0, 0, 0)), (4, 1, .iload_n 1, (0, 0, 0, 0, 0, 0)), (5, 1, .aload_n 0, (0, 0, 0, 0, 0, 0)), (6, 3, .getfield 15, (1, 1, 0, 0, 0, 0)), (9, 3, .if_icmp .ge 7, (16, 0, 0, 0, 0, 0)),
  (12, 1, .iconst 1, (0, 0, 0, 0, 0, 0)), (13, 3, .goto 4, (17, 0, 0, 0, 0, 0)), (16, 1, .iconst 0, (0, 0, 0, 0, 0, 0)), (17, 1, .ireturn, (1, 0, 0, 0, 0, 0))]
def z_X1_addHook : List zI := [
  (0, 1, .aload_n 0, (0, 0, 0, 0, 0, 0)), (1, 3, .getfield 9, (1, 0, 0, 0, 0, 0)), (4, 2, .bipush 7, (0, 0, 0, 0, 0, 0)), (6, 3, .if_icmp .lt 4, (10, 0, 0, 0, 0, 0)), (9, 1, .return_, (0, 0, 0, 0, 0, 0)), (10, 1, .aload_n 0, (0, 0, 0, 0, 0, 0)),
  (11, 3, .getfield 18, (1, 2, 2, 0, 0, 0)), (14, 1, .aload_n 0, (0, 0, 0, 0, 0, 0)), (15, 3, .getfield 9, (1, 0, 0, 0, 0, 0)), (18, 1, .iload_n 1, (0, 0, 0, 0, 0, 0)), (19, 1, .iastore, (0, 0, 0, 0, 0, 0)), (20, 1, .aload_n 0, (0, 0, 0, 0, 0, 0)),
  (21, 1, .dup, (0, 0, 0, 0, 0, 0)), (22, 3, .getfield 9, (1, 0, 0, 0, 0, 0)), (25, 1, .iconst 1, (0, 0, 0, 0, 0, 0)), (26, 1, .iadd, (0, 0, 0, 0, 0, 0)), (27, 3, .putfield 9, (1, 0, 0, 0, 0, 0)), (30, 1, .return_, (0, 0, 0, 0, 0, 0))]
def z_X1_addMan : List zI := [
  (0, 1, .aload_n 0, (0, 0, 0, 0, 0, 0)), (1, 3, .getfield 15, (1, 1, 0, 0, 0, 0)), (4, 1, .aload_n 0, (0, 0, 0, 0, 0, 0)), (5, 3, .invokevirtual 34, (36, 0, 0, 1, 1, 1)), (8, 3, .if_icmp .lt 4, (12, 0, 0, 0, 0, 0)), (11, 1, .return_, (0, 0, 0, 0, 0, 0)),
  (12, 1, .aload_n 0, (0, 0, 0, 0, 0, 0)), (13, 3, .getfield 22, (1, 3, 2, 0, 0, 0)), (16, 1, .aload_n 0, (0, 0, 0, 0, 0, 0)), (17, 3, .getfield 15, (1, 1, 0, 0, 0, 0)), (20, 1, .iload_n 1, (0, 0, 0, 0, 0, 0)), (21, 1, .iastore, (0, 0, 0, 0, 0, 0)),
  (22, 1, .aload_n 0, (0, 0, 0, 0, 0, 0)), (23, 3, .getfield 25, (1, 4, 2, 0, 0, 0)), (26, 1, .aload_n 0, (0, 0, 0, 0, 0, 0)), (27, 3, .getfield 15, (1, 1, 0, 0, 0, 0)), (30, 1, .iload_n 2, (0, 0, 0, 0, 0, 0)), (31, 1, .iastore, (0, 0, 0, 0, 0, 0)),
  (32, 1, .aload_n 0, (0, 0, 0, 0, 0, 0)), (33, 3, .getfield 28, (1, 5, 2, 0, 0, 0)), (36, 1, .aload_n 0, (0, 0, 0, 0, 0, 0)), (37, 3, .getfield 15, (1, 1, 0, 0, 0, 0)), (40, 1, .iload_n 3, (0, 0, 0, 0, 0, 0)), (41, 1, .iastore, (0, 0, 0, 0, 0, 0)),
  (42, 1, .aload_n 0, (0, 0, 0, 0, 0, 0)), (43, 3, .getfield 31, (1, 6, 2, 0, 0, 0)), (46, 1, .aload_n 0, (0, 0, 0, 0, 0, 0)), (47, 3, .getfield 15, (1, 1, 0, 0, 0, 0)), (50, 2, .iload 4, (0, 0, 0, 0, 0, 0)), (52, 1, .iastore, (0, 0, 0, 0, 0, 0)),
  (53, 1, .aload_n 0, (0, 0, 0, 0, 0, 0)), (54, 1, .dup, (0, 0, 0, 0, 0, 0)), (55, 3, .getfield 15, (1, 1, 0, 0, 0, 0)), (58, 1, .iconst 1, (0, 0, 0, 0, 0, 0)), (59, 1, .iadd, (0, 0, 0, 0, 0, 0)), (60, 3, .putfield 15, (1, 1, 0, 0, 0, 0)),
  (63, 1, .return_, (0, 0, 0, 0, 0, 0))]
def z_X1_mostMen : List zI := [
  (0, 2, .bipush 6, (0, 0, 0, 0, 0, 0)), (2, 1, .aload_n 0, (0, 0, 0, 0, 0, 0)), (3, 3, .getfield 9, (1, 0, 0, 0, 0, 0)), (6, 3, .invokestatic 38, (0, 7, 0, 0, 0, 0)), (9, 1, .ireturn, (0, 0, 0, 0, 0, 0))]
def z_X1_planCount : List zI := [
  (0, 1, .iconst 1, (0, 0, 0, 0, 0, 0)), (1, 1, .istore_n 1, (0, 0, 0, 0, 0, 0)), (2, 1, .iconst 0, (0, 0, 0, 0, 0, 0)), (3, 1, .istore_n 2, (0, 0, 0, 0, 0, 0)), (4, 1, .iload_n 2, (0, 0, 0, 0, 0, 0)), (5, 1, .aload_n 0, (0, 0, 0, 0, 0, 0)),
  (6, 3, .getfield 15, (1, 1, 0, 0, 0, 0)), (9, 3, .if_icmp .ge 18, (27, 0, 0, 0, 0, 0)), (12, 1, .iload_n 1, (0, 0, 0, 0, 0, 0)), (13, 1, .aload_n 0, (0, 0, 0, 0, 0, 0)), (14, 3, .getfield 9, (1, 0, 0, 0, 0, 0)), (17, 1, .iload_n 2, (0, 0, 0, 0, 0, 0)),
  (18, 1, .isub, (0, 0, 0, 0, 0, 0)), (19, 1, .imul, (0, 0, 0, 0, 0, 0)), (20, 1, .istore_n 1, (0, 0, 0, 0, 0, 0)), (21, 3, .iinc 2 1, (0, 0, 0, 0, 0, 0)), (24, 3, .goto (-20), (4, 0, 0, 0, 0, 0)), (27, 1, .iload_n 1, (0, 0, 0, 0, 0, 0)),
  (28, 1, .ireturn, (0, 0, 0, 0, 0, 0))]
def z_X1_isOf : List zI := [
  (0, 1, .aload_n 0, (0, 0, 0, 0, 0, 0)), (1, 3, .getfield 22, (1, 3, 2, 0, 0, 0)), (4, 1, .iload_n 1, (0, 0, 0, 0, 0, 0)), (5, 1, .iaload, (0, 0, 0, 0, 0, 0)), (6, 1, .iload_n 2, (0, 0, 0, 0, 0, 0)), (7, 3, .if_icmp .eq 18, (25, 0, 0, 0, 0, 0)),
  (10, 1, .iload_n 2, (0, 0, 0, 0, 0, 0)), (11, 1, .iconst 1, (0, 0, 0, 0, 0, 0)), (12, 3, .if_icmp .ne 17, (29, 0, 0, 0, 0, 0)), (15, 1, .aload_n 0, (0, 0, 0, 0, 0, 0)), (16, 3, .getfield 22, (1, 3, 2, 0, 0, 0)), (19, 1, .iload_n 1, (0, 0, 0, 0, 0, 0)),
  (20, 1, .iaload, (0, 0, 0, 0, 0, 0)), (21, 1, .iconst 4, (0, 0, 0, 0, 0, 0)), (22, 3, .if_icmp .ne 7, (29, 0, 0, 0, 0, 0)), (25, 1, .iconst 1, (0, 0, 0, 0, 0, 0)), (26, 3, .goto 4, (30, 0, 0, 0, 0, 0)), (29, 1, .iconst 0, (0, 0, 0, 0, 0, 0)),
  (30, 1, .ireturn, (1, 0, 0, 0, 0, 0))]
def z_X1_bitsOf : List zI := [
  (0, 1, .iconst 0, (0, 0, 0, 0, 0, 0)), (1, 1, .istore_n 2, (0, 0, 0, 0, 0, 0)), (2, 1, .iconst 0, (0, 0, 0, 0, 0, 0)), (3, 1, .istore_n 3, (0, 0, 0, 0, 0, 0)), (4, 1, .iload_n 3, (0, 0, 0, 0, 0, 0)), (5, 1, .aload_n 0, (0, 0, 0, 0, 0, 0)),
  (6, 3, .getfield 15, (1, 1, 0, 0, 0, 0)), (9, 3, .if_icmp .ge 24, (33, 0, 0, 0, 0, 0)), (12, 1, .aload_n 0, (0, 0, 0, 0, 0, 0)), (13, 1, .iload_n 3, (0, 0, 0, 0, 0, 0)), (14, 1, .iload_n 1, (0, 0, 0, 0, 0, 0)), (15, 3, .invokevirtual 44, (38, 0, 2, 1, 3, 1)),
  (18, 3, .ifCond .eq 9, (27, 0, 0, 0, 0, 0)), (21, 1, .iload_n 2, (0, 0, 0, 0, 0, 0)), (22, 1, .iconst 1, (0, 0, 0, 0, 0, 0)), (23, 1, .iload_n 3, (0, 0, 0, 0, 0, 0)), (24, 1, .ishl, (0, 0, 0, 0, 0, 0)), (25, 1, .ior, (0, 0, 0, 0, 0, 0)),
  (26, 1, .istore_n 2, (0, 0, 0, 0, 0, 0)), (27, 3, .iinc 3 1, (0, 0, 0, 0, 0, 0)), (30, 3, .goto (-26), (4, 0, 0, 0, 0, 0)), (33, 1, .iload_n 2, (0, 0, 0, 0, 0, 0)), (34, 1, .ireturn, (0, 0, 0, 0, 0, 0))]
def z_X1_bulk : List zI := [
  (0, 3, .getstatic 48, (0, 0, 0, 1, 0, 0)), (3, 1, .aload_n 0, (0, 0, 0, 0, 0, 0)), (4, 3, .getfield 22, (1, 3, 2, 0, 0, 0)), (7, 1, .iload_n 1, (0, 0, 0, 0, 0, 0)), (8, 1, .iaload, (0, 0, 0, 0, 0, 0)), (9, 1, .iaload, (0, 0, 0, 0, 0, 0)),
  (10, 1, .ireturn, (0, 0, 0, 0, 0, 0))]
def z_X1_placeWakes : List zI := [
  (0, 3, .getstatic 51, (3, 0, 0, 1, 0, 0)), (3, 1, .aload_n 0, (0, 0, 0, 0, 0, 0)), (4, 3, .getfield 18, (1, 2, 2, 0, 0, 0)), (7, 1, .iload_n 1, (0, 0, 0, 0, 0, 0)), (8, 1, .iaload, (0, 0, 0, 0, 0, 0)), (9, 1, .iaload, (0, 0, 0, 0, 0, 0)),
  (10, 1, .ireturn, (0, 0, 0, 0, 0, 0))]
def z_X2_init : List zI := [
  (0, 1, .aload_n 0, (0, 0, 0, 0, 0, 0)), (1, 3, .invokespecial 3, (0, 4, 0, 0, 0, 0)), (4, 1, .aload_n 0, (0, 0, 0, 0, 0, 0)), (5, 3, .sipush 1098, (0, 0, 0, 0, 0, 0)), (8, 2, .newarray .int, (0, 0, 0, 0, 0, 0)), (10, 3, .putfield 11, (2, 0, 2, 0, 0, 0)),
  (13, 1, .aload_n 0, (0, 0, 0, 0, 0, 0)), (14, 1, .iload_n 1, (0, 0, 0, 0, 0, 0)), (15, 3, .putfield 17, (2, 1, 0, 0, 0, 0)), (18, 1, .return_, (0, 0, 0, 0, 0, 0))]
def z_X2_isMissing : List zI := [
  (0, 1, .aload_n 0, (0, 0, 0, 0, 0, 0)), (1, 3, .getfield 17, (2, 1, 0, 0, 0, 0)), (4, 1, .iconst (-1), (0, 0, 0, 0, 0, 0)), (5, 3, .if_icmp .ne 7, (12, 0, 0, 0, 0, 0)), (8, 1, .iconst 1, (0, 0, 0, 0, 0, 0)), (9, 3, .goto 4, (13, 0, 0, 0, 0, 0)),
  (12, 1, .iconst 0, (0, 0, 0, 0, 0, 0)), (13, 1, .ireturn, (1, 0, 0, 0, 0, 0))]
def z_X2_hasRoomFor : List zI := [
  (0, 1, .iload_n 1, (0, 0, 0, 0, 0, 0)), (1, 2, .bipush 60, (0, 0, 0, 0, 0, 0)), (3, 1, .aload_n 0, (0, 0, 0, 0, 0, 0)), (4, 3, .getfield 17, (2, 1, 0, 0, 0, 0)), (7, 1, .isub, (0, 0, 0, 0, 0, 0)), (8, 3, .if_icmp .gt 7, (15, 0, 0, 0, 0, 0)),
  (11, 1, .iconst 1, (0, 0, 0, 0, 0, 0)), (12, 3, .goto 4, (16, 0, 0, 0, 0, 0)), (15, 1, .iconst 0, (0, 0, 0, 0, 0, 0)), (16, 1, .ireturn, (1, 0, 0, 0, 0, 0))]
def z_X2_begin : List zI := [
  (0, 1, .aload_n 0, (0, 0, 0, 0, 0, 0)), (1, 1, .iconst 0, (0, 0, 0, 0, 0, 0)), (2, 3, .putfield 17, (2, 1, 0, 0, 0, 0)), (5, 1, .aload_n 1, (0, 0, 0, 0, 0, 0)), (6, 1, .aload_n 0, (0, 0, 0, 0, 0, 0)), (7, 3, .getfield 11, (2, 0, 2, 0, 0, 0)),
  (10, 1, .iconst 0, (0, 0, 0, 0, 0, 0)), (11, 3, .invokevirtual 21, (7, 0, 2, 0, 3, 0)), (14, 1, .return_, (0, 0, 0, 0, 0, 0))]
def z_X2_add : List zI := [
  (0, 1, .aload_n 0, (0, 0, 0, 0, 0, 0)), (1, 1, .iconst 1, (0, 0, 0, 0, 0, 0)), (2, 3, .invokevirtual 25, (44, 0, 1, 1, 2, 2)), (5, 3, .ifCond .ne 4, (9, 0, 0, 0, 0, 0)), (8, 1, .return_, (0, 0, 0, 0, 0, 0)), (9, 1, .aload_n 0, (0, 0, 0, 0, 0, 0)),
  (10, 1, .dup, (0, 0, 0, 0, 0, 0)), (11, 3, .getfield 17, (2, 1, 0, 0, 0, 0)), (14, 1, .iconst 1, (0, 0, 0, 0, 0, 0)), (15, 1, .iadd, (0, 0, 0, 0, 0, 0)), (16, 3, .putfield 17, (2, 1, 0, 0, 0, 0)), (19, 1, .aload_n 1, (0, 0, 0, 0, 0, 0)),
  (20, 1, .aload_n 0, (0, 0, 0, 0, 0, 0)), (21, 3, .getfield 11, (2, 0, 2, 0, 0, 0)), (24, 1, .aload_n 0, (0, 0, 0, 0, 0, 0)), (25, 3, .getfield 17, (2, 1, 0, 0, 0, 0)), (28, 2, .bipush 18, (0, 0, 0, 0, 0, 0)), (30, 1, .imul, (0, 0, 0, 0, 0, 0)),
  (31, 3, .invokevirtual 21, (7, 0, 2, 0, 3, 0)), (34, 1, .return_, (0, 0, 0, 0, 0, 0))]
def z_X2_discard : List zI := [
  (0, 1, .aload_n 0, (0, 0, 0, 0, 0, 0)), (1, 1, .iconst (-1), (0, 0, 0, 0, 0, 0)), (2, 3, .putfield 17, (2, 1, 0, 0, 0, 0)), (5, 1, .return_, (0, 0, 0, 0, 0, 0))]
def z_X2_copyFrom : List zI := [
  (0, 1, .aload_n 0, (0, 0, 0, 0, 0, 0)), (1, 1, .aload_n 1, (0, 0, 0, 0, 0, 0)), (2, 3, .getfield 17, (2, 1, 0, 0, 0, 0)), (5, 3, .putfield 17, (2, 1, 0, 0, 0, 0)), (8, 1, .aload_n 1, (0, 0, 0, 0, 0, 0)), (9, 3, .getfield 11, (2, 0, 2, 0, 0, 0)),
  (12, 1, .iconst 0, (0, 0, 0, 0, 0, 0)), (13, 1, .aload_n 0, (0, 0, 0, 0, 0, 0)), (14, 3, .getfield 11, (2, 0, 2, 0, 0, 0)), (17, 1, .iconst 0, (0, 0, 0, 0, 0, 0)), (18, 1, .aload_n 0, (0, 0, 0, 0, 0, 0)), (19, 3, .getfield 11, (2, 0, 2, 0, 0, 0)),
  (22, 1, .arraylength, (0, 0, 0, 0, 0, 0)), (23, 3, .invokestatic 29, (0, 3, 0, 0, 0, 0)), (26, 1, .return_, (0, 0, 0, 0, 0, 0))]
def z_X2_goBackTo : List zI := [
  (0, 1, .iload_n 1, (0, 0, 0, 0, 0, 0)), (1, 3, .ifCond .lt 11, (12, 0, 0, 0, 0, 0)), (4, 1, .iload_n 1, (0, 0, 0, 0, 0, 0)), (5, 1, .aload_n 0, (0, 0, 0, 0, 0, 0)), (6, 3, .getfield 17, (2, 1, 0, 0, 0, 0)), (9, 3, .if_icmp .le 4, (13, 0, 0, 0, 0, 0)),
  (12, 1, .return_, (0, 0, 0, 0, 0, 0)), (13, 1, .aload_n 0, (0, 0, 0, 0, 0, 0)), (14, 1, .iload_n 1, (0, 0, 0, 0, 0, 0)), (15, 3, .putfield 17, (2, 1, 0, 0, 0, 0)), (18, 1, .aload_n 2, (0, 0, 0, 0, 0, 0)), (19, 1, .aload_n 0, (0, 0, 0, 0, 0, 0)),
  (20, 3, .getfield 11, (2, 0, 2, 0, 0, 0)), (23, 1, .iload_n 1, (0, 0, 0, 0, 0, 0)), (24, 2, .bipush 18, (0, 0, 0, 0, 0, 0)), (26, 1, .imul, (0, 0, 0, 0, 0, 0)), (27, 3, .invokevirtual 35, (8, 0, 2, 0, 4, 0)), (30, 1, .return_, (0, 0, 0, 0, 0, 0))]
def z_X3_init : List zI := [
  (0, 1, .aload_n 0, (0, 0, 0, 0, 0, 0)), (1, 3, .invokespecial 3, (0, 4, 0, 0, 0, 0)), (4, 1, .aload_n 0, (0, 0, 0, 0, 0, 0)), (5, 1, .iconst 0, (0, 0, 0, 0, 0, 0)), (6, 3, .putfield 9, (3, 2, 0, 0, 0, 0)), (9, 1, .aload_n 0, (0, 0, 0, 0, 0, 0)),
  (10, 1, .aload_n 1, (0, 0, 0, 0, 0, 0)), (11, 3, .putfield 15, (3, 0, 2, 0, 0, 0)), (14, 1, .aload_n 0, (0, 0, 0, 0, 0, 0)), (15, 1, .aload_n 2, (0, 0, 0, 0, 0, 0)), (16, 3, .putfield 19, (3, 1, 2, 0, 0, 0)), (19, 1, .return_, (0, 0, 0, 0, 0, 0))]
def z_X3_read : List zI := [
  (0, 1, .aload_n 0, (0, 0, 0, 0, 0, 0)), (1, 3, .invokevirtual 23, (52, 0, 0, 0, 1, 3)), (4, 1, .aload_n 0, (0, 0, 0, 0, 0, 0)), (5, 3, .invokevirtual 26, (53, 0, 0, 1, 2, 3)), (8, 3, .ifCond .ne 8, (16, 0, 0, 0, 0, 0)), (11, 1, .aload_n 0, (0, 0, 0, 0, 0, 0)),
  (12, 3, .getfield 9, (3, 2, 0, 0, 0, 0)), (15, 1, .ireturn, (0, 0, 0, 0, 0, 0)), (16, 1, .aload_n 0, (0, 0, 0, 0, 0, 0)), (17, 3, .invokevirtual 23, (52, 0, 0, 0, 1, 3)), (20, 1, .aload_n 0, (0, 0, 0, 0, 0, 0)), (21, 3, .getfield 19, (3, 1, 2, 0, 0, 0)),
  (24, 3, .invokevirtual 30, (36, 0, 0, 1, 1, 1)), (27, 1, .istore_n 1, (0, 0, 0, 0, 0, 0)), (28, 1, .iconst 0, (0, 0, 0, 0, 0, 0)), (29, 1, .istore_n 2, (0, 0, 0, 0, 0, 0)), (30, 1, .iload_n 2, (0, 0, 0, 0, 0, 0)), (31, 1, .iload_n 1, (0, 0, 0, 0, 0, 0)),
  (32, 3, .if_icmp .ge 39, (71, 0, 0, 0, 0, 0)), (35, 1, .aload_n 0, (0, 0, 0, 0, 0, 0)), (36, 3, .getfield 9, (3, 2, 0, 0, 0, 0)), (39, 1, .aload_n 0, (0, 0, 0, 0, 0, 0)), (40, 3, .getfield 15, (3, 0, 2, 0, 0, 0)), (43, 3, .getfield 36, (4, 1, 0, 1, 0, 0)),
  (46, 3, .if_icmp .ge 25, (71, 0, 0, 0, 0, 0)), (49, 1, .aload_n 0, (0, 0, 0, 0, 0, 0)), (50, 3, .invokevirtual 41, (54, 0, 0, 1, 5, 3)), (53, 3, .ifCond .ne 8, (61, 0, 0, 0, 0, 0)), (56, 1, .aload_n 0, (0, 0, 0, 0, 0, 0)), (57, 3, .getfield 9, (3, 2, 0, 0, 0, 0)),
  (60, 1, .ireturn, (0, 0, 0, 0, 0, 0)), (61, 1, .aload_n 0, (0, 0, 0, 0, 0, 0)), (62, 3, .invokevirtual 23, (52, 0, 0, 0, 1, 3)), (65, 3, .iinc 2 1, (0, 0, 0, 0, 0, 0)), (68, 3, .goto (-38), (30, 0, 0, 0, 0, 0)), (71, 1, .aload_n 0, (0, 0, 0, 0, 0, 0)),
  (72, 3, .getfield 19, (3, 1, 2, 0, 0, 0)), (75, 3, .getfield 44, (1, 1, 0, 1, 0, 0)), (78, 3, .ifCond .le 22, (100, 0, 0, 0, 0, 0)), (81, 1, .aload_n 0, (0, 0, 0, 0, 0, 0)), (82, 3, .getfield 9, (3, 2, 0, 0, 0, 0)), (85, 1, .aload_n 0, (0, 0, 0, 0, 0, 0)),
  (86, 3, .getfield 15, (3, 0, 2, 0, 0, 0)), (89, 3, .getfield 36, (4, 1, 0, 1, 0, 0)), (92, 3, .if_icmp .ne 8, (100, 0, 0, 0, 0, 0)), (95, 2, .bipush (-9), (0, 0, 0, 0, 0, 0)), (97, 3, .goto 7, (104, 0, 0, 0, 0, 0)), (100, 1, .aload_n 0, (0, 0, 0, 0, 0, 0)),
  (101, 3, .getfield 9, (3, 2, 0, 0, 0, 0)), (104, 1, .ireturn, (0, 0, 0, 0, 0, 0))]
def z_X3_skipBlanks : List zI := [
  (0, 1, .aload_n 0, (0, 0, 0, 0, 0, 0)), (1, 3, .getfield 9, (3, 2, 0, 0, 0, 0)), (4, 1, .aload_n 0, (0, 0, 0, 0, 0, 0)), (5, 3, .getfield 15, (3, 0, 2, 0, 0, 0)), (8, 3, .getfield 36, (4, 1, 0, 1, 0, 0)), (11, 3, .if_icmp .ge 32, (43, 0, 0, 0, 0, 0)),
  (14, 1, .aload_n 0, (0, 0, 0, 0, 0, 0)), (15, 3, .getfield 15, (3, 0, 2, 0, 0, 0)), (18, 1, .aload_n 0, (0, 0, 0, 0, 0, 0)), (19, 3, .getfield 9, (3, 2, 0, 0, 0, 0)), (22, 3, .invokevirtual 47, (60, 0, 1, 1, 2, 4)), (25, 2, .bipush 32, (0, 0, 0, 0, 0, 0)),
  (27, 3, .if_icmp .ne 16, (43, 0, 0, 0, 0, 0)), (30, 1, .aload_n 0, (0, 0, 0, 0, 0, 0)), (31, 1, .dup, (0, 0, 0, 0, 0, 0)), (32, 3, .getfield 9, (3, 2, 0, 0, 0, 0)), (35, 1, .iconst 1, (0, 0, 0, 0, 0, 0)), (36, 1, .iadd, (0, 0, 0, 0, 0, 0)),
  (37, 3, .putfield 9, (3, 2, 0, 0, 0, 0)), (40, 3, .goto (-40), (0, 0, 0, 0, 0, 0)), (43, 1, .return_, (0, 0, 0, 0, 0, 0))]
def z_X3_readHooks : List zI := [
  (0, 1, .aload_n 0, (0, 0, 0, 0, 0, 0)), (1, 3, .getfield 15, (3, 0, 2, 0, 0, 0)), (4, 1, .aload_n 0, (0, 0, 0, 0, 0, 0)), (5, 3, .getfield 9, (3, 2, 0, 0, 0, 0)), (8, 3, .invokevirtual 51, (59, 0, 1, 1, 2, 4)), (11, 3, .ifCond .eq 19, (30, 0, 0, 0, 0, 0)),
  (14, 1, .aload_n 0, (0, 0, 0, 0, 0, 0)), (15, 3, .getfield 15, (3, 0, 2, 0, 0, 0)), (18, 1, .aload_n 0, (0, 0, 0, 0, 0, 0)), (19, 3, .getfield 9, (3, 2, 0, 0, 0, 0)), (22, 3, .invokevirtual 47, (60, 0, 1, 1, 2, 4)), (25, 2, .bipush 107, (0, 0, 0, 0, 0, 0)),
  (27, 3, .if_icmp .eq 5, (32, 0, 0, 0, 0, 0)), (30, 1, .iconst 0, (0, 0, 0, 0, 0, 0)), (31, 1, .ireturn, (1, 0, 0, 0, 0, 0)), (32, 1, .aload_n 0, (0, 0, 0, 0, 0, 0)), (33, 1, .dup, (0, 0, 0, 0, 0, 0)), (34, 3, .getfield 9, (3, 2, 0, 0, 0, 0)),
  (37, 1, .iconst 1, (0, 0, 0, 0, 0, 0)), (38, 1, .iadd, (0, 0, 0, 0, 0, 0)), (39, 3, .putfield 9, (3, 2, 0, 0, 0, 0)), (42, 1, .aload_n 0, (0, 0, 0, 0, 0, 0)), (43, 3, .getfield 9, (3, 2, 0, 0, 0, 0)), (46, 1, .aload_n 0, (0, 0, 0, 0, 0, 0)),
  (47, 3, .getfield 15, (3, 0, 2, 0, 0, 0)), (50, 3, .getfield 36, (4, 1, 0, 1, 0, 0)), (53, 3, .if_icmp .ge 55, (108, 0, 0, 0, 0, 0)), (56, 1, .aload_n 0, (0, 0, 0, 0, 0, 0)), (57, 3, .getstatic 55, (2, 0, 0, 1, 0, 0)), (60, 3, .invokevirtual 59, (55, 0, 1, 1, 3, 3)),
  (63, 1, .istore_n 1, (0, 0, 0, 0, 0, 0)), (64, 1, .iload_n 1, (0, 0, 0, 0, 0, 0)), (65, 2, .bipush (-9), (0, 0, 0, 0, 0, 0)), (67, 3, .if_icmp .ne 6, (73, 0, 0, 0, 0, 0)), (70, 3, .goto 38, (108, 0, 0, 0, 0, 0)), (73, 1, .aload_n 0, (0, 0, 0, 0, 0, 0)),
  (74, 3, .getfield 19, (3, 1, 2, 0, 0, 0)), (77, 3, .getfield 63, (1, 0, 0, 1, 0, 0)), (80, 2, .bipush 7, (0, 0, 0, 0, 0, 0)), (82, 3, .if_icmp .ne 5, (87, 0, 0, 0, 0, 0)), (85, 1, .iconst 0, (0, 0, 0, 0, 0, 0)), (86, 1, .ireturn, (1, 0, 0, 0, 0, 0)),
  (87, 1, .aload_n 0, (0, 0, 0, 0, 0, 0)), (88, 3, .getfield 19, (3, 1, 2, 0, 0, 0)), (91, 1, .iload_n 1, (0, 0, 0, 0, 0, 0)), (92, 3, .invokevirtual 66, (34, 0, 1, 0, 2, 1)), (95, 1, .aload_n 0, (0, 0, 0, 0, 0, 0)), (96, 1, .dup, (0, 0, 0, 0, 0, 0)),
  (97, 3, .getfield 9, (3, 2, 0, 0, 0, 0)), (100, 1, .iconst 1, (0, 0, 0, 0, 0, 0)), (101, 1, .iadd, (0, 0, 0, 0, 0, 0)), (102, 3, .putfield 9, (3, 2, 0, 0, 0, 0)), (105, 3, .goto (-63), (42, 2, 0, 0, 0, 0)), (108, 1, .aload_n 0, (0, 0, 0, 0, 0, 0)),
  (109, 3, .getfield 19, (3, 1, 2, 0, 0, 0)), (112, 3, .getfield 63, (1, 0, 0, 1, 0, 0)), (115, 1, .iconst 2, (0, 0, 0, 0, 0, 0)), (116, 3, .if_icmp .lt 7, (123, 0, 0, 0, 0, 0)), (119, 1, .iconst 1, (0, 0, 0, 0, 0, 0)), (120, 3, .goto 4, (124, 0, 0, 0, 0, 0)),
  (123, 1, .iconst 0, (0, 0, 0, 0, 0, 0)), (124, 1, .ireturn, (1, 0, 0, 0, 0, 0))]
def z_X3_readMan : List zI := [
  (0, 1, .aload_n 0, (0, 0, 0, 0, 0, 0)), (1, 3, .getstatic 70, (1, 0, 0, 1, 0, 0)), (4, 3, .invokevirtual 59, (55, 0, 1, 1, 3, 3)), (7, 1, .istore_n 1, (0, 0, 0, 0, 0, 0)), (8, 1, .iload_n 1, (0, 0, 0, 0, 0, 0)), (9, 2, .bipush (-9), (0, 0, 0, 0, 0, 0)),
  (11, 3, .if_icmp .ne 5, (16, 0, 0, 0, 0, 0)), (14, 1, .iconst 0, (0, 0, 0, 0, 0, 0)), (15, 1, .ireturn, (1, 0, 0, 0, 0, 0)), (16, 1, .aload_n 0, (0, 0, 0, 0, 0, 0)), (17, 1, .dup, (0, 0, 0, 0, 0, 0)), (18, 3, .getfield 9, (3, 2, 0, 0, 0, 0)),
  (21, 1, .iconst 1, (0, 0, 0, 0, 0, 0)), (22, 1, .iadd, (0, 0, 0, 0, 0, 0)), (23, 3, .putfield 9, (3, 2, 0, 0, 0, 0)), (26, 1, .aload_n 0, (0, 0, 0, 0, 0, 0)), (27, 1, .iconst 1, (0, 0, 0, 0, 0, 0)), (28, 2, .bipush 9, (0, 0, 0, 0, 0, 0)),
  (30, 3, .invokevirtual 73, (56, 0, 2, 1, 4, 3)), (33, 1, .istore_n 2, (0, 0, 0, 0, 0, 0)), (34, 1, .iload_n 2, (0, 0, 0, 0, 0, 0)), (35, 2, .bipush (-9), (0, 0, 0, 0, 0, 0)), (37, 3, .if_icmp .ne 5, (42, 0, 0, 0, 0, 0)), (40, 1, .iconst 0, (0, 0, 0, 0, 0, 0)),
  (41, 1, .ireturn, (1, 0, 0, 0, 0, 0)), (42, 1, .aload_n 0, (0, 0, 0, 0, 0, 0)), (43, 1, .iconst 0, (0, 0, 0, 0, 0, 0)), (44, 1, .iconst 1, (0, 0, 0, 0, 0, 0)), (45, 3, .invokevirtual 73, (56, 0, 2, 1, 4, 3)), (48, 1, .istore_n 3, (0, 0, 0, 0, 0, 0)),
  (49, 1, .iload_n 3, (0, 0, 0, 0, 0, 0)), (50, 2, .bipush (-9), (0, 0, 0, 0, 0, 0)), (52, 3, .if_icmp .ne 5, (57, 0, 0, 0, 0, 0)), (55, 1, .iconst 0, (0, 0, 0, 0, 0, 0)), (56, 1, .ireturn, (1, 0, 0, 0, 0, 0)), (57, 1, .aload_n 0, (0, 0, 0, 0, 0, 0)),
  (58, 1, .iconst 0, (0, 0, 0, 0, 0, 0)), (59, 1, .iconst 3, (0, 0, 0, 0, 0, 0)), (60, 3, .invokevirtual 73, (56, 0, 2, 1, 4, 3)), (63, 2, .istore 4, (0, 0, 0, 0, 0, 0)), (65, 2, .iload 4, (0, 0, 0, 0, 0, 0)), (67, 2, .bipush (-9), (0, 0, 0, 0, 0, 0)),
  (69, 3, .if_icmp .ne 5, (74, 0, 0, 0, 0, 0)), (72, 1, .iconst 0, (0, 0, 0, 0, 0, 0)), (73, 1, .ireturn, (1, 0, 0, 0, 0, 0)), (74, 1, .aload_n 0, (0, 0, 0, 0, 0, 0)), (75, 3, .getfield 19, (3, 1, 2, 0, 0, 0)), (78, 1, .iload_n 1, (0, 0, 0, 0, 0, 0)),
  (79, 1, .iload_n 2, (0, 0, 0, 0, 0, 0)), (80, 1, .iload_n 3, (0, 0, 0, 0, 0, 0)), (81, 2, .iload 4, (0, 0, 0, 0, 0, 0)), (83, 3, .invokevirtual 77, (35, 0, 4, 0, 5, 1)), (86, 1, .iconst 1, (0, 0, 0, 0, 0, 0)), (87, 1, .ireturn, (1, 0, 0, 0, 0, 0))]
def z_X3_letterIn : List zI := [
  (0, 1, .iconst 0, (0, 0, 0, 0, 0, 0)), (1, 1, .istore_n 2, (0, 0, 0, 0, 0, 0)), (2, 1, .iload_n 2, (0, 0, 0, 0, 0, 0)), (3, 1, .aload_n 1, (0, 0, 0, 0, 0, 0)), (4, 1, .arraylength, (0, 0, 0, 0, 0, 0)), (5, 3, .if_icmp .ge 42, (47, 0, 0, 0, 0, 0)),
  (8, 1, .aload_n 0, (0, 0, 0, 0, 0, 0)), (9, 3, .getfield 15, (3, 0, 2, 0, 0, 0)), (12, 1, .aload_n 0, (0, 0, 0, 0, 0, 0)), (13, 3, .getfield 9, (3, 2, 0, 0, 0, 0)), (16, 3, .invokevirtual 51, (59, 0, 1, 1, 2, 4)), (19, 3, .ifCond .eq 22, (41, 0, 0, 0, 0, 0)),
  (22, 1, .aload_n 0, (0, 0, 0, 0, 0, 0)), (23, 3, .getfield 15, (3, 0, 2, 0, 0, 0)), (26, 1, .aload_n 0, (0, 0, 0, 0, 0, 0)), (27, 3, .getfield 9, (3, 2, 0, 0, 0, 0)), (30, 3, .invokevirtual 47, (60, 0, 1, 1, 2, 4)), (33, 1, .aload_n 1, (0, 0, 0, 0, 0, 0)),
  (34, 1, .iload_n 2, (0, 0, 0, 0, 0, 0)), (35, 1, .caload, (0, 0, 0, 0, 0, 0)), (36, 3, .if_icmp .ne 5, (41, 0, 0, 0, 0, 0)), (39, 1, .iload_n 2, (0, 0, 0, 0, 0, 0)), (40, 1, .ireturn, (0, 0, 0, 0, 0, 0)), (41, 3, .iinc 2 1, (0, 0, 0, 0, 0, 0)),
  (44, 3, .goto (-42), (2, 0, 0, 0, 0, 0)), (47, 2, .bipush (-9), (0, 0, 0, 0, 0, 0)), (49, 1, .ireturn, (0, 0, 0, 0, 0, 0))]
def z_X3_readFigure : List zI := [
  (0, 1, .aload_n 0, (0, 0, 0, 0, 0, 0)), (1, 3, .getfield 15, (3, 0, 2, 0, 0, 0)), (4, 1, .aload_n 0, (0, 0, 0, 0, 0, 0)), (5, 3, .getfield 9, (3, 2, 0, 0, 0, 0)), (8, 3, .invokevirtual 51, (59, 0, 1, 1, 2, 4)), (11, 3, .ifCond .eq 20, (31, 0, 0, 0, 0, 0)),
  (14, 1, .aload_n 0, (0, 0, 0, 0, 0, 0)), (15, 3, .getfield 15, (3, 0, 2, 0, 0, 0)), (18, 1, .aload_n 0, (0, 0, 0, 0, 0, 0)), (19, 3, .getfield 9, (3, 2, 0, 0, 0, 0)), (22, 3, .invokevirtual 47, (60, 0, 1, 1, 2, 4)), (25, 2, .bipush 48, (0, 0, 0, 0, 0, 0)),
  (27, 1, .isub, (0, 0, 0, 0, 0, 0)), (28, 3, .goto 5, (33, 0, 0, 0, 0, 0)), (31, 2, .bipush (-9), (0, 0, 0, 0, 0, 0)), (33, 1, .istore_n 3, (0, 0, 0, 0, 0, 0)), (34, 1, .iload_n 3, (0, 0, 0, 0, 0, 0)), (35, 1, .iload_n 1, (0, 0, 0, 0, 0, 0)),
  (36, 3, .if_icmp .lt 8, (44, 0, 0, 0, 0, 0)), (39, 1, .iload_n 3, (0, 0, 0, 0, 0, 0)), (40, 1, .iload_n 2, (0, 0, 0, 0, 0, 0)), (41, 3, .if_icmp .le 6, (47, 0, 0, 0, 0, 0)), (44, 2, .bipush (-9), (0, 0, 0, 0, 0, 0)), (46, 1, .ireturn, (0, 0, 0, 0, 0, 0)),
  (47, 1, .aload_n 0, (0, 0, 0, 0, 0, 0)), (48, 1, .dup, (0, 0, 0, 0, 0, 0)), (49, 3, .getfield 9, (3, 2, 0, 0, 0, 0)), (52, 1, .iconst 1, (0, 0, 0, 0, 0, 0)), (53, 1, .iadd, (0, 0, 0, 0, 0, 0)), (54, 3, .putfield 9, (3, 2, 0, 0, 0, 0)),
  (57, 1, .iload_n 3, (0, 0, 0, 0, 0, 0)), (58, 1, .ireturn, (0, 0, 0, 0, 0, 0))]
def z_X4_init : List zI := [
  (0, 1, .aload_n 0, (0, 0, 0, 0, 0, 0)), (1, 3, .invokespecial 3, (0, 4, 0, 0, 0, 0)), (4, 1, .aload_n 0, (0, 0, 0, 0, 0, 0)), (5, 2, .bipush 60, (0, 0, 0, 0, 0, 0)), (7, 2, .newarray .int, (0, 0, 0, 0, 0, 0)), (9, 3, .putfield 9, (4, 0, 2, 0, 0, 0)),
  (12, 1, .aload_n 0, (0, 0, 0, 0, 0, 0)), (13, 1, .iconst (-1), (0, 0, 0, 0, 0, 0)), (14, 3, .putfield 15, (4, 1, 0, 0, 0, 0)), (17, 1, .return_, (0, 0, 0, 0, 0, 0))]
def z_X4_isMissing : List zI := [
  (0, 1, .aload_n 0, (0, 0, 0, 0, 0, 0)), (1, 3, .getfield 15, (4, 1, 0, 0, 0, 0)), (4, 1, .iconst (-1), (0, 0, 0, 0, 0, 0)), (5, 3, .if_icmp .ne 7, (12, 0, 0, 0, 0, 0)), (8, 1, .iconst 1, (0, 0, 0, 0, 0, 0)), (9, 3, .goto 4, (13, 0, 0, 0, 0, 0)),
  (12, 1, .iconst 0, (0, 0, 0, 0, 0, 0)), (13, 1, .ireturn, (1, 0, 0, 0, 0, 0))]
def z_X4_has : List zI := [
  (0, 1, .iload_n 1, (0, 0, 0, 0, 0, 0)), (1, 3, .ifCond .lt 15, (16, 0, 0, 0, 0, 0)), (4, 1, .iload_n 1, (0, 0, 0, 0, 0, 0)), (5, 1, .aload_n 0, (0, 0, 0, 0, 0, 0)), (6, 3, .getfield 15, (4, 1, 0, 0, 0, 0)), (9, 3, .if_icmp .ge 7, (16, 0, 0, 0, 0, 0)),
  (12, 1, .iconst 1, (0, 0, 0, 0, 0, 0)), (13, 3, .goto 4, (17, 0, 0, 0, 0, 0)), (16, 1, .iconst 0, (0, 0, 0, 0, 0, 0)), (17, 1, .ireturn, (1, 0, 0, 0, 0, 0))]
def z_X4_get : List zI := [
  (0, 1, .aload_n 0, (0, 0, 0, 0, 0, 0)), (1, 1, .iload_n 1, (0, 0, 0, 0, 0, 0)), (2, 3, .invokevirtual 19, (59, 0, 1, 1, 2, 4)), (5, 3, .ifCond .eq 12, (17, 0, 0, 0, 0, 0)), (8, 1, .aload_n 0, (0, 0, 0, 0, 0, 0)), (9, 3, .getfield 9, (4, 0, 2, 0, 0, 0)),
  (12, 1, .iload_n 1, (0, 0, 0, 0, 0, 0)), (13, 1, .iaload, (0, 0, 0, 0, 0, 0)), (14, 3, .goto 4, (18, 0, 0, 0, 0, 0)), (17, 1, .iconst 0, (0, 0, 0, 0, 0, 0)), (18, 1, .ireturn, (0, 0, 0, 0, 0, 0))]
def z_X4_set : List zI := [
  (0, 1, .aload_n 0, (0, 0, 0, 0, 0, 0)), (1, 1, .iload_n 1, (0, 0, 0, 0, 0, 0)), (2, 3, .invokevirtual 19, (59, 0, 1, 1, 2, 4)), (5, 3, .ifCond .eq 10, (15, 0, 0, 0, 0, 0)), (8, 1, .aload_n 0, (0, 0, 0, 0, 0, 0)), (9, 3, .getfield 9, (4, 0, 2, 0, 0, 0)),
  (12, 1, .iload_n 1, (0, 0, 0, 0, 0, 0)), (13, 1, .iload_n 2, (0, 0, 0, 0, 0, 0)), (14, 1, .iastore, (0, 0, 0, 0, 0, 0)), (15, 1, .return_, (0, 0, 0, 0, 0, 0))]
def z_X4_renew : List zI := [
  (0, 1, .aload_n 0, (0, 0, 0, 0, 0, 0)), (1, 1, .iconst 0, (0, 0, 0, 0, 0, 0)), (2, 1, .iload_n 1, (0, 0, 0, 0, 0, 0)), (3, 1, .aload_n 0, (0, 0, 0, 0, 0, 0)), (4, 3, .getfield 9, (4, 0, 2, 0, 0, 0)), (7, 1, .arraylength, (0, 0, 0, 0, 0, 0)),
  (8, 3, .invokestatic 23, (0, 7, 0, 0, 0, 0)), (11, 3, .invokestatic 29, (0, 6, 0, 0, 0, 0)), (14, 3, .putfield 15, (4, 1, 0, 0, 0, 0)), (17, 1, .aload_n 0, (0, 0, 0, 0, 0, 0)), (18, 3, .getfield 9, (4, 0, 2, 0, 0, 0)), (21, 1, .iload_n 2, (0, 0, 0, 0, 0, 0)),
  (22, 3, .invokestatic 32, (129, 2, 2, 0, 4, 0)), (25, 1, .return_, (0, 0, 0, 0, 0, 0))]
def z_X4_discard : List zI := [
  (0, 1, .aload_n 0, (0, 0, 0, 0, 0, 0)), (1, 1, .iconst (-1), (0, 0, 0, 0, 0, 0)), (2, 3, .putfield 15, (4, 1, 0, 0, 0, 0)), (5, 1, .return_, (0, 0, 0, 0, 0, 0))]
def z_X4_digestedOnto : List zI := [
  (0, 3, .ldc2_w 52, (0, 0, 0, 0, 0, 31)), (3, 1, .lload_n 1, (0, 0, 0, 0, 0, 0)), (4, 1, .lmul, (0, 0, 0, 0, 0, 0)), (5, 1, .aload_n 0, (0, 0, 0, 0, 0, 0)), (6, 3, .getfield 15, (4, 1, 0, 0, 0, 0)), (9, 1, .i2l, (0, 0, 0, 0, 0, 0)),
  (10, 1, .ladd, (0, 0, 0, 0, 0, 0)), (11, 1, .lstore_n 3, (0, 0, 0, 0, 0, 0)), (12, 1, .iconst 0, (0, 0, 0, 0, 0, 0)), (13, 2, .istore 5, (0, 0, 0, 0, 0, 0)), (15, 2, .iload 5, (0, 0, 0, 0, 0, 0)), (17, 1, .aload_n 0, (0, 0, 0, 0, 0, 0)),
  (18, 3, .getfield 15, (4, 1, 0, 0, 0, 0)), (21, 3, .if_icmp .ge 23, (44, 0, 0, 0, 0, 0)), (24, 3, .ldc2_w 52, (0, 0, 0, 0, 0, 31)), (27, 1, .lload_n 3, (0, 0, 0, 0, 0, 0)), (28, 1, .lmul, (0, 0, 0, 0, 0, 0)), (29, 1, .aload_n 0, (0, 0, 0, 0, 0, 0)),
  (30, 2, .iload 5, (0, 0, 0, 0, 0, 0)), (32, 3, .invokevirtual 48, (60, 0, 1, 1, 2, 4)), (35, 1, .i2l, (0, 0, 0, 0, 0, 0)), (36, 1, .ladd, (0, 0, 0, 0, 0, 0)), (37, 1, .lstore_n 3, (0, 0, 0, 0, 0, 0)), (38, 3, .iinc 5 1, (0, 0, 0, 0, 0, 0)),
  (41, 3, .goto (-26), (15, 0, 0, 0, 0, 0)), (44, 1, .lload_n 3, (0, 0, 0, 0, 0, 0)), (45, 1, .lreturn, (0, 0, 0, 0, 0, 0))]
def z_X5_init : List zI := [
  (0, 1, .aload_n 0, (0, 0, 0, 0, 0, 0)), (1, 3, .invokespecial 1, (0, 4, 0, 0, 0, 0)), (4, 1, .aload_n 0, (0, 0, 0, 0, 0, 0)), (5, 2, .bipush 6, (0, 0, 0, 0, 0, 0)), (7, 3, .anewarray 9, (4, 0, 0, 0, 0, 0)), (10, 3, .putfield 11, (5, 0, 2, 0, 0, 0)),
  (13, 1, .aload_n 0, (0, 0, 0, 0, 0, 0)), (14, 1, .iconst 4, (0, 0, 0, 0, 0, 0)), (15, 3, .anewarray 9, (4, 0, 0, 0, 0, 0)), (18, 3, .putfield 15, (5, 1, 2, 0, 0, 0)), (21, 1, .aload_n 0, (0, 0, 0, 0, 0, 0)), (22, 3, .new 18, (1, 0, 0, 0, 0, 0)),
  (25, 1, .dup, (0, 0, 0, 0, 0, 0)), (26, 3, .invokespecial 20, (31, 1, 0, 0, 1, 0)), (29, 3, .putfield 21, (5, 2, 2, 0, 0, 0)), (32, 1, .aload_n 0, (0, 0, 0, 0, 0, 0)), (33, 3, .new 25, (0, 0, 0, 0, 0, 0)), (36, 1, .dup, (0, 0, 0, 0, 0, 0)),
  (37, 1, .aload_n 0, (0, 0, 0, 0, 0, 0)), (38, 3, .getfield 21, (5, 2, 2, 0, 0, 0)), (41, 3, .invokespecial 27, (1, 1, 1, 0, 2, 0)), (44, 3, .putfield 30, (5, 3, 2, 0, 0, 0)), (47, 1, .aload_n 0, (0, 0, 0, 0, 0, 0)), (48, 3, .new 25, (0, 0, 0, 0, 0, 0)),
  (51, 1, .dup, (0, 0, 0, 0, 0, 0)), (52, 1, .aload_n 0, (0, 0, 0, 0, 0, 0)), (53, 3, .getfield 21, (5, 2, 2, 0, 0, 0)), (56, 3, .invokespecial 27, (1, 1, 1, 0, 2, 0)), (59, 3, .putfield 34, (5, 4, 2, 0, 0, 0)), (62, 1, .aload_n 0, (0, 0, 0, 0, 0, 0)),
  (63, 3, .new 37, (2, 0, 0, 0, 0, 0)), (66, 1, .dup, (0, 0, 0, 0, 0, 0)), (67, 1, .iconst 0, (0, 0, 0, 0, 0, 0)), (68, 3, .invokespecial 39, (42, 1, 1, 0, 2, 0)), (71, 3, .putfield 42, (5, 5, 2, 0, 0, 0)), (74, 1, .aload_n 0, (0, 0, 0, 0, 0, 0)),
  (75, 1, .iconst 3, (0, 0, 0, 0, 0, 0)), (76, 3, .anewarray 37, (2, 0, 0, 0, 0, 0)), (79, 3, .putfield 46, (5, 6, 2, 0, 0, 0)), (82, 1, .aload_n 0, (0, 0, 0, 0, 0, 0)), (83, 1, .iconst 0, (0, 0, 0, 0, 0, 0)), (84, 3, .putfield 50, (5, 7, 0, 0, 0, 0)),
  (87, 1, .aload_n 0, (0, 0, 0, 0, 0, 0)), (88, 1, .lconst 0, (0, 0, 0, 0, 0, 0)), (89, 3, .putfield 54, (5, 8, 1, 0, 0, 0)), (92, 1, .aload_n 0, (0, 0, 0, 0, 0, 0)), (93, 1, .lconst 1, (0, 0, 0, 0, 0, 0)), (94, 3, .putfield 58, (5, 9, 1, 0, 0, 0)),
  (97, 1, .aload_n 0, (0, 0, 0, 0, 0, 0)), (98, 1, .iconst 0, (0, 0, 0, 0, 0, 0)), (99, 3, .putfield 61, (5, 10, 0, 0, 0, 0)), (102, 1, .aload_n 0, (0, 0, 0, 0, 0, 0)), (103, 2, .bipush 6, (0, 0, 0, 0, 0, 0)), (105, 2, .newarray .int, (0, 0, 0, 0, 0, 0)),
  (107, 3, .putfield 64, (5, 11, 2, 0, 0, 0)), (110, 1, .iconst 0, (0, 0, 0, 0, 0, 0)), (111, 1, .istore_n 1, (0, 0, 0, 0, 0, 0)), (112, 1, .iload_n 1, (0, 0, 0, 0, 0, 0)), (113, 1, .aload_n 0, (0, 0, 0, 0, 0, 0)), (114, 3, .getfield 11, (5, 0, 2, 0, 0, 0)),
  (117, 1, .arraylength, (0, 0, 0, 0, 0, 0)), (118, 3, .if_icmp .ge 22, (140, 0, 0, 0, 0, 0)), (121, 1, .aload_n 0, (0, 0, 0, 0, 0, 0)), (122, 3, .getfield 11, (5, 0, 2, 0, 0, 0)), (125, 1, .iload_n 1, (0, 0, 0, 0, 0, 0)), (126, 3, .new 9, (4, 0, 0, 0, 0, 0)),
  (129, 1, .dup, (0, 0, 0, 0, 0, 0)), (130, 3, .invokespecial 68, (57, 1, 0, 0, 1, 0)), (133, 1, .aastore, (0, 0, 0, 0, 0, 0)), (134, 3, .iinc 1 1, (0, 0, 0, 0, 0, 0)), (137, 3, .goto (-25), (112, 0, 0, 0, 0, 0)), (140, 1, .iconst 0, (0, 0, 0, 0, 0, 0)),
  (141, 1, .istore_n 1, (0, 0, 0, 0, 0, 0)), (142, 1, .iload_n 1, (0, 0, 0, 0, 0, 0)), (143, 1, .aload_n 0, (0, 0, 0, 0, 0, 0)), (144, 3, .getfield 15, (5, 1, 2, 0, 0, 0)), (147, 1, .arraylength, (0, 0, 0, 0, 0, 0)), (148, 3, .if_icmp .ge 22, (170, 0, 0, 0, 0, 0)),
  (151, 1, .aload_n 0, (0, 0, 0, 0, 0, 0)), (152, 3, .getfield 15, (5, 1, 2, 0, 0, 0)), (155, 1, .iload_n 1, (0, 0, 0, 0, 0, 0)), (156, 3, .new 9, (4, 0, 0, 0, 0, 0)), (159, 1, .dup, (0, 0, 0, 0, 0, 0)), (160, 3, .invokespecial 68, (57, 1, 0, 0, 1, 0)),
  (163, 1, .aastore, (0, 0, 0, 0, 0, 0)), (164, 3, .iinc 1 1, (0, 0, 0, 0, 0, 0)), (167, 3, .goto (-25), (142, 0, 0, 0, 0, 0)), (170, 1, .iconst 0, (0, 0, 0, 0, 0, 0)), (171, 1, .istore_n 1, (0, 0, 0, 0, 0, 0)), (172, 1, .iload_n 1, (0, 0, 0, 0, 0, 0)),
  (173, 1, .aload_n 0, (0, 0, 0, 0, 0, 0)), (174, 3, .getfield 46, (5, 6, 2, 0, 0, 0)), (177, 1, .arraylength, (0, 0, 0, 0, 0, 0)), (178, 3, .if_icmp .ge 23, (201, 0, 0, 0, 0, 0)), (181, 1, .aload_n 0, (0, 0, 0, 0, 0, 0)), (182, 3, .getfield 46, (5, 6, 2, 0, 0, 0)),
  (185, 1, .iload_n 1, (0, 0, 0, 0, 0, 0)), (186, 3, .new 37, (2, 0, 0, 0, 0, 0)), (189, 1, .dup, (0, 0, 0, 0, 0, 0)), (190, 1, .iconst (-1), (0, 0, 0, 0, 0, 0)), (191, 3, .invokespecial 39, (42, 1, 1, 0, 2, 0)), (194, 1, .aastore, (0, 0, 0, 0, 0, 0)),
  (195, 3, .iinc 1 1, (0, 0, 0, 0, 0, 0)), (198, 3, .goto (-26), (172, 0, 0, 0, 0, 0)), (201, 1, .return_, (0, 0, 0, 0, 0, 0))]
def z_X5_row : List zI := [
  (0, 1, .aload_n 0, (0, 0, 0, 0, 0, 0)), (1, 1, .aload_n 0, (0, 0, 0, 0, 0, 0)), (2, 1, .iload_n 1, (0, 0, 0, 0, 0, 0)), (3, 3, .invokevirtual 69, (106, 0, 1, 3, 2, 5)), (6, 1, .iload_n 2, (0, 0, 0, 0, 0, 0)), (7, 2, .bipush 40, (0, 0, 0, 0, 0, 0)),
  (9, 1, .iconst 0, (0, 0, 0, 0, 0, 0)), (10, 3, .invokevirtual 73, (114, 0, 4, 1, 5, 5)), (13, 1, .ireturn, (0, 0, 0, 0, 0, 0))]
def z_X5_lay : List zI := [
  (0, 1, .aload_n 0, (0, 0, 0, 0, 0, 0)), (1, 1, .iload_n 1, (0, 0, 0, 0, 0, 0)), (2, 3, .invokevirtual 69, (106, 0, 1, 3, 2, 5)), (5, 2, .astore 4, (0, 0, 0, 0, 0, 0)), (7, 2, .aload 4, (0, 0, 0, 0, 0, 0)), (9, 3, .ifnonnull 5, (14, 0, 0, 0, 0, 0)),
  (12, 1, .iconst (-1), (0, 0, 0, 0, 0, 0)), (13, 1, .ireturn, (0, 0, 0, 0, 0, 0)), (14, 2, .aload 4, (0, 0, 0, 0, 0, 0)), (16, 3, .invokevirtual 77, (58, 0, 0, 1, 1, 4)), (19, 3, .ifCond .eq 9, (28, 0, 0, 0, 0, 0)), (22, 1, .aload_n 0, (0, 0, 0, 0, 0, 0)),
  (23, 1, .iconst 1, (0, 0, 0, 0, 0, 0)), (24, 3, .invokevirtual 81, (110, 0, 1, 1, 2, 5)), (27, 1, .ireturn, (0, 0, 0, 0, 0, 0)), (28, 2, .aload 4, (0, 0, 0, 0, 0, 0)), (30, 1, .iload_n 2, (0, 0, 0, 0, 0, 0)), (31, 3, .invokevirtual 85, (59, 0, 1, 1, 2, 4)),
  (34, 3, .ifCond .ne 9, (43, 0, 0, 0, 0, 0)), (37, 1, .aload_n 0, (0, 0, 0, 0, 0, 0)), (38, 1, .iconst 2, (0, 0, 0, 0, 0, 0)), (39, 3, .invokevirtual 81, (110, 0, 1, 1, 2, 5)), (42, 1, .ireturn, (0, 0, 0, 0, 0, 0)), (43, 1, .aload_n 0, (0, 0, 0, 0, 0, 0)),
  (44, 2, .aload 4, (0, 0, 0, 0, 0, 0)), (46, 1, .iload_n 2, (0, 0, 0, 0, 0, 0)), (47, 3, .invokevirtual 89, (60, 0, 1, 1, 2, 4)), (50, 3, .invokevirtual 92, (111, 0, 1, 0, 2, 5)), (53, 2, .aload 4, (0, 0, 0, 0, 0, 0)), (55, 1, .iload_n 2, (0, 0, 0, 0, 0, 0)),
  (56, 1, .iload_n 3, (0, 0, 0, 0, 0, 0)), (57, 3, .invokevirtual 95, (61, 0, 2, 0, 3, 4)), (60, 1, .iconst 1, (0, 0, 0, 0, 0, 0)), (61, 1, .ireturn, (0, 0, 0, 0, 0, 0))]
def z_X5_at : List zI := [
  (0, 1, .aload_n 0, (0, 0, 0, 0, 0, 0)), (1, 1, .iload_n 1, (0, 0, 0, 0, 0, 0)), (2, 3, .invokevirtual 69, (106, 0, 1, 3, 2, 5)), (5, 1, .astore_n 3, (0, 0, 0, 0, 0, 0)), (6, 1, .aload_n 3, (0, 0, 0, 0, 0, 0)), (7, 3, .ifnonnull 5, (12, 0, 0, 0, 0, 0)),
  (10, 1, .iconst (-1), (0, 0, 0, 0, 0, 0)), (11, 1, .ireturn, (0, 0, 0, 0, 0, 0)), (12, 1, .aload_n 3, (0, 0, 0, 0, 0, 0)), (13, 3, .invokevirtual 77, (58, 0, 0, 1, 1, 4)), (16, 3, .ifCond .eq 9, (25, 0, 0, 0, 0, 0)), (19, 1, .aload_n 0, (0, 0, 0, 0, 0, 0)),
  (20, 1, .iconst 1, (0, 0, 0, 0, 0, 0)), (21, 3, .invokevirtual 81, (110, 0, 1, 1, 2, 5)), (24, 1, .ireturn, (0, 0, 0, 0, 0, 0)), (25, 1, .aload_n 3, (0, 0, 0, 0, 0, 0)), (26, 1, .iload_n 2, (0, 0, 0, 0, 0, 0)), (27, 3, .invokevirtual 85, (59, 0, 1, 1, 2, 4)),
  (30, 3, .ifCond .ne 9, (39, 0, 0, 0, 0, 0)), (33, 1, .aload_n 0, (0, 0, 0, 0, 0, 0)), (34, 1, .iconst 2, (0, 0, 0, 0, 0, 0)), (35, 3, .invokevirtual 81, (110, 0, 1, 1, 2, 5)), (38, 1, .ireturn, (0, 0, 0, 0, 0, 0)), (39, 1, .aload_n 0, (0, 0, 0, 0, 0, 0)),
  (40, 1, .aload_n 3, (0, 0, 0, 0, 0, 0)), (41, 1, .iload_n 2, (0, 0, 0, 0, 0, 0)), (42, 3, .invokevirtual 89, (60, 0, 1, 1, 2, 4)), (45, 3, .invokevirtual 92, (111, 0, 1, 0, 2, 5)), (48, 1, .iconst 1, (0, 0, 0, 0, 0, 0)), (49, 1, .ireturn, (0, 0, 0, 0, 0, 0))]
def z_X5_tear : List zI := [
  (0, 1, .aload_n 0, (0, 0, 0, 0, 0, 0)), (1, 1, .iload_n 1, (0, 0, 0, 0, 0, 0)), (2, 3, .invokevirtual 69, (106, 0, 1, 3, 2, 5)), (5, 1, .astore_n 2, (0, 0, 0, 0, 0, 0)), (6, 1, .aload_n 2, (0, 0, 0, 0, 0, 0)), (7, 3, .ifnonnull 5, (12, 0, 0, 0, 0, 0)),
  (10, 1, .iconst (-1), (0, 0, 0, 0, 0, 0)), (11, 1, .ireturn, (0, 0, 0, 0, 0, 0)), (12, 1, .aload_n 2, (0, 0, 0, 0, 0, 0)), (13, 3, .invokevirtual 77, (58, 0, 0, 1, 1, 4)), (16, 3, .ifCond .eq 9, (25, 0, 0, 0, 0, 0)), (19, 1, .aload_n 0, (0, 0, 0, 0, 0, 0)),
  (20, 1, .iconst 1, (0, 0, 0, 0, 0, 0)), (21, 3, .invokevirtual 81, (110, 0, 1, 1, 2, 5)), (24, 1, .ireturn, (0, 0, 0, 0, 0, 0)), (25, 1, .aload_n 2, (0, 0, 0, 0, 0, 0)), (26, 3, .invokevirtual 99, (63, 0, 0, 0, 1, 4)), (29, 1, .iconst 1, (0, 0, 0, 0, 0, 0)),
  (30, 1, .ireturn, (0, 0, 0, 0, 0, 0))]
def z_X5_text : List zI := [
  (0, 1, .aload_n 0, (0, 0, 0, 0, 0, 0)), (1, 1, .aload_n 0, (0, 0, 0, 0, 0, 0)), (2, 1, .iload_n 1, (0, 0, 0, 0, 0, 0)), (3, 3, .invokevirtual 117, (107, 0, 1, 3, 2, 5)), (6, 1, .iload_n 2, (0, 0, 0, 0, 0, 0)), (7, 2, .bipush 60, (0, 0, 0, 0, 0, 0)),
  (9, 2, .bipush 32, (0, 0, 0, 0, 0, 0)), (11, 3, .invokevirtual 73, (114, 0, 4, 1, 5, 5)), (14, 1, .ireturn, (0, 0, 0, 0, 0, 0))]
def z_X5_put : List zI := [
  (0, 1, .aload_n 0, (0, 0, 0, 0, 0, 0)), (1, 1, .iload_n 1, (0, 0, 0, 0, 0, 0)), (2, 3, .invokevirtual 117, (107, 0, 1, 3, 2, 5)), (5, 2, .astore 4, (0, 0, 0, 0, 0, 0)), (7, 2, .aload 4, (0, 0, 0, 0, 0, 0)), (9, 3, .ifnonnull 5, (14, 0, 0, 0, 0, 0)),
  (12, 1, .iconst (-1), (0, 0, 0, 0, 0, 0)), (13, 1, .ireturn, (0, 0, 0, 0, 0, 0)), (14, 2, .aload 4, (0, 0, 0, 0, 0, 0)), (16, 3, .invokevirtual 77, (58, 0, 0, 1, 1, 4)), (19, 3, .ifCond .eq 9, (28, 0, 0, 0, 0, 0)), (22, 1, .aload_n 0, (0, 0, 0, 0, 0, 0)),
  (23, 1, .iconst 1, (0, 0, 0, 0, 0, 0)), (24, 3, .invokevirtual 81, (110, 0, 1, 1, 2, 5)), (27, 1, .ireturn, (0, 0, 0, 0, 0, 0)), (28, 2, .aload 4, (0, 0, 0, 0, 0, 0)), (30, 1, .iload_n 2, (0, 0, 0, 0, 0, 0)), (31, 3, .invokevirtual 85, (59, 0, 1, 1, 2, 4)),
  (34, 3, .ifCond .ne 9, (43, 0, 0, 0, 0, 0)), (37, 1, .aload_n 0, (0, 0, 0, 0, 0, 0)), (38, 1, .iconst 2, (0, 0, 0, 0, 0, 0)), (39, 3, .invokevirtual 81, (110, 0, 1, 1, 2, 5)), (42, 1, .ireturn, (0, 0, 0, 0, 0, 0)), (43, 2, .aload 4, (0, 0, 0, 0, 0, 0)),
  (45, 1, .iload_n 2, (0, 0, 0, 0, 0, 0)), (46, 3, .invokevirtual 89, (60, 0, 1, 1, 2, 4)), (49, 2, .istore 5, (0, 0, 0, 0, 0, 0)), (51, 2, .aload 4, (0, 0, 0, 0, 0, 0)), (53, 1, .iload_n 2, (0, 0, 0, 0, 0, 0)), (54, 1, .iload_n 3, (0, 0, 0, 0, 0, 0)),
  (55, 1, .i2b, (0, 0, 0, 0, 0, 0)), (56, 3, .invokevirtual 95, (61, 0, 2, 0, 3, 4)), (59, 2, .iload 5, (0, 0, 0, 0, 0, 0)), (61, 3, .sipush 1000, (0, 0, 0, 0, 0, 0)), (64, 1, .iadd, (0, 0, 0, 0, 0, 0)), (65, 1, .ireturn, (0, 0, 0, 0, 0, 0))]
def z_X5_fault : List zI := [
  (0, 1, .aload_n 0, (0, 0, 0, 0, 0, 0)), (1, 1, .iload_n 1, (0, 0, 0, 0, 0, 0)), (2, 3, .invokevirtual 117, (107, 0, 1, 3, 2, 5)), (5, 1, .astore_n 2, (0, 0, 0, 0, 0, 0)), (6, 1, .aload_n 2, (0, 0, 0, 0, 0, 0)), (7, 3, .ifnonnull 5, (12, 0, 0, 0, 0, 0)),
  (10, 1, .iconst (-1), (0, 0, 0, 0, 0, 0)), (11, 1, .ireturn, (0, 0, 0, 0, 0, 0)), (12, 1, .aload_n 2, (0, 0, 0, 0, 0, 0)), (13, 3, .invokevirtual 77, (58, 0, 0, 1, 1, 4)), (16, 3, .ifCond .eq 9, (25, 0, 0, 0, 0, 0)), (19, 1, .aload_n 0, (0, 0, 0, 0, 0, 0)),
  (20, 1, .iconst 1, (0, 0, 0, 0, 0, 0)), (21, 3, .invokevirtual 81, (110, 0, 1, 1, 2, 5)), (24, 1, .ireturn, (0, 0, 0, 0, 0, 0)), (25, 3, .new 120, (3, 0, 0, 0, 0, 0)), (28, 1, .dup, (0, 0, 0, 0, 0, 0)), (29, 1, .aload_n 2, (0, 0, 0, 0, 0, 0)),
  (30, 3, .new 18, (1, 0, 0, 0, 0, 0)), (33, 1, .dup, (0, 0, 0, 0, 0, 0)), (34, 3, .invokespecial 20, (31, 1, 0, 0, 1, 0)), (37, 3, .invokespecial 122, (50, 1, 2, 0, 3, 0)), (40, 3, .invokevirtual 125, (51, 0, 0, 1, 3, 3)), (43, 1, .ireturn, (0, 0, 0, 0, 0, 0))]
def z_X5_deck : List zI := [
  (0, 1, .aload_n 0, (0, 0, 0, 0, 0, 0)), (1, 1, .iload_n 1, (0, 0, 0, 0, 0, 0)), (2, 3, .invokevirtual 117, (107, 0, 1, 3, 2, 5)), (5, 1, .astore_n 2, (0, 0, 0, 0, 0, 0)), (6, 1, .aload_n 2, (0, 0, 0, 0, 0, 0)), (7, 3, .ifnonnull 5, (12, 0, 0, 0, 0, 0)),
  (10, 1, .iconst (-1), (0, 0, 0, 0, 0, 0)), (11, 1, .ireturn, (0, 0, 0, 0, 0, 0)), (12, 1, .aload_n 2, (0, 0, 0, 0, 0, 0)), (13, 3, .invokevirtual 77, (58, 0, 0, 1, 1, 4)), (16, 3, .ifCond .eq 9, (25, 0, 0, 0, 0, 0)), (19, 1, .aload_n 0, (0, 0, 0, 0, 0, 0)),
  (20, 1, .iconst 1, (0, 0, 0, 0, 0, 0)), (21, 3, .invokevirtual 81, (110, 0, 1, 1, 2, 5)), (24, 1, .ireturn, (0, 0, 0, 0, 0, 0)), (25, 3, .new 18, (1, 0, 0, 0, 0, 0)), (28, 1, .dup, (0, 0, 0, 0, 0, 0)), (29, 3, .invokespecial 20, (31, 1, 0, 0, 1, 0)),
  (32, 1, .astore_n 3, (0, 0, 0, 0, 0, 0)), (33, 3, .new 120, (3, 0, 0, 0, 0, 0)), (36, 1, .dup, (0, 0, 0, 0, 0, 0)), (37, 1, .aload_n 2, (0, 0, 0, 0, 0, 0)), (38, 1, .aload_n 3, (0, 0, 0, 0, 0, 0)), (39, 3, .invokespecial 122, (50, 1, 2, 0, 3, 0)),
  (42, 3, .invokevirtual 125, (51, 0, 0, 1, 3, 3)), (45, 2, .bipush (-9), (0, 0, 0, 0, 0, 0)), (47, 3, .if_icmp .eq 6, (53, 0, 0, 0, 0, 0)), (50, 2, .bipush (-4), (0, 0, 0, 0, 0, 0)), (52, 1, .ireturn, (0, 0, 0, 0, 0, 0)), (53, 1, .aload_n 0, (0, 0, 0, 0, 0, 0)),
  (54, 1, .aload_n 3, (0, 0, 0, 0, 0, 0)), (55, 3, .putfield 21, (5, 2, 2, 0, 0, 0)), (58, 1, .aload_n 0, (0, 0, 0, 0, 0, 0)), (59, 3, .getfield 30, (5, 3, 2, 0, 0, 0)), (62, 1, .aload_n 3, (0, 0, 0, 0, 0, 0)), (63, 3, .invokevirtual 129, (2, 0, 1, 0, 2, 0)),
  (66, 1, .aload_n 0, (0, 0, 0, 0, 0, 0)), (67, 3, .getfield 42, (5, 5, 2, 0, 0, 0)), (70, 1, .aload_n 0, (0, 0, 0, 0, 0, 0)), (71, 3, .getfield 30, (5, 3, 2, 0, 0, 0)), (74, 3, .invokevirtual 132, (45, 0, 1, 0, 2, 2)), (77, 1, .iconst 0, (0, 0, 0, 0, 0, 0)),
  (78, 2, .istore 4, (0, 0, 0, 0, 0, 0)), (80, 2, .iload 4, (0, 0, 0, 0, 0, 0)), (82, 1, .aload_n 0, (0, 0, 0, 0, 0, 0)), (83, 3, .getfield 46, (5, 6, 2, 0, 0, 0)), (86, 1, .arraylength, (0, 0, 0, 0, 0, 0)), (87, 3, .if_icmp .ge 19, (106, 0, 0, 0, 0, 0)),
  (90, 1, .aload_n 0, (0, 0, 0, 0, 0, 0)), (91, 3, .getfield 46, (5, 6, 2, 0, 0, 0)), (94, 2, .iload 4, (0, 0, 0, 0, 0, 0)), (96, 1, .aaload, (0, 0, 0, 0, 0, 0)), (97, 3, .invokevirtual 135, (47, 0, 0, 0, 1, 2)), (100, 3, .iinc 4 1, (0, 0, 0, 0, 0, 0)),
  (103, 3, .goto (-23), (80, 0, 0, 0, 0, 0)), (106, 1, .aload_n 3, (0, 0, 0, 0, 0, 0)), (107, 3, .getfield 136, (1, 1, 0, 1, 0, 0)), (110, 1, .ireturn, (0, 0, 0, 0, 0, 0))]
def z_X5_man : List zI := [
  (0, 1, .aload_n 0, (0, 0, 0, 0, 0, 0)), (1, 3, .getfield 21, (5, 2, 2, 0, 0, 0)), (4, 1, .iload_n 1, (0, 0, 0, 0, 0, 0)), (5, 3, .invokevirtual 139, (33, 0, 1, 1, 2, 1)), (8, 3, .ifCond .eq 13, (21, 0, 0, 0, 0, 0)), (11, 1, .iload_n 2, (0, 0, 0, 0, 0, 0)),
  (12, 3, .ifCond .lt 9, (21, 0, 0, 0, 0, 0)), (15, 1, .iload_n 2, (0, 0, 0, 0, 0, 0)), (16, 2, .bipush 6, (0, 0, 0, 0, 0, 0)), (18, 3, .if_icmp .lt 5, (23, 0, 0, 0, 0, 0)), (21, 1, .iconst (-1), (0, 0, 0, 0, 0, 0)), (22, 1, .ireturn, (0, 0, 0, 0, 0, 0)),
  (23, 1, .aload_n 0, (0, 0, 0, 0, 0, 0)), (24, 1, .aload_n 0, (0, 0, 0, 0, 0, 0)), (25, 3, .getfield 30, (5, 3, 2, 0, 0, 0)), (28, 1, .iload_n 1, (0, 0, 0, 0, 0, 0)), (29, 1, .iload_n 2, (0, 0, 0, 0, 0, 0)), (30, 3, .invokevirtual 142, (4, 0, 2, 1, 3, 0)),
  (33, 3, .invokevirtual 92, (111, 0, 1, 0, 2, 5)), (36, 1, .iconst 1, (0, 0, 0, 0, 0, 0)), (37, 1, .ireturn, (0, 0, 0, 0, 0, 0))]
def z_X5_hook : List zI := [
  (0, 1, .aload_n 0, (0, 0, 0, 0, 0, 0)), (1, 3, .getfield 21, (5, 2, 2, 0, 0, 0)), (4, 1, .iload_n 1, (0, 0, 0, 0, 0, 0)), (5, 3, .invokevirtual 146, (32, 0, 1, 1, 2, 1)), (8, 3, .ifCond .eq 12, (20, 0, 0, 0, 0, 0)), (11, 1, .iload_n 2, (0, 0, 0, 0, 0, 0)),
  (12, 3, .ifCond .lt 8, (20, 0, 0, 0, 0, 0)), (15, 1, .iload_n 2, (0, 0, 0, 0, 0, 0)), (16, 1, .iconst 2, (0, 0, 0, 0, 0, 0)), (17, 3, .if_icmp .lt 5, (22, 0, 0, 0, 0, 0)), (20, 1, .iconst (-1), (0, 0, 0, 0, 0, 0)), (21, 1, .ireturn, (0, 0, 0, 0, 0, 0)),
  (22, 1, .aload_n 0, (0, 0, 0, 0, 0, 0)), (23, 1, .aload_n 0, (0, 0, 0, 0, 0, 0)), (24, 3, .getfield 30, (5, 3, 2, 0, 0, 0)), (27, 1, .iload_n 1, (0, 0, 0, 0, 0, 0)), (28, 1, .iload_n 2, (0, 0, 0, 0, 0, 0)), (29, 3, .invokevirtual 149, (5, 0, 2, 1, 3, 0)),
  (32, 3, .invokevirtual 92, (111, 0, 1, 0, 2, 5)), (35, 1, .iconst 1, (0, 0, 0, 0, 0, 0)), (36, 1, .ireturn, (0, 0, 0, 0, 0, 0))]
def z_X5_hang : List zI := [
  (0, 1, .aload_n 0, (0, 0, 0, 0, 0, 0)), (1, 3, .getfield 21, (5, 2, 2, 0, 0, 0)), (4, 1, .iload_n 1, (0, 0, 0, 0, 0, 0)), (5, 3, .invokevirtual 139, (33, 0, 1, 1, 2, 1)), (8, 3, .ifCond .eq 14, (22, 0, 0, 0, 0, 0)), (11, 1, .aload_n 0, (0, 0, 0, 0, 0, 0)),
  (12, 3, .getfield 21, (5, 2, 2, 0, 0, 0)), (15, 1, .iload_n 2, (0, 0, 0, 0, 0, 0)), (16, 3, .invokevirtual 146, (32, 0, 1, 1, 2, 1)), (19, 3, .ifCond .ne 5, (24, 0, 0, 0, 0, 0)), (22, 1, .iconst (-1), (0, 0, 0, 0, 0, 0)), (23, 1, .ireturn, (0, 0, 0, 0, 0, 0)),
  (24, 1, .aload_n 0, (0, 0, 0, 0, 0, 0)), (25, 3, .getfield 30, (5, 3, 2, 0, 0, 0)), (28, 1, .iload_n 2, (0, 0, 0, 0, 0, 0)), (29, 3, .invokevirtual 169, (9, 0, 1, 1, 2, 0)), (32, 3, .ifCond .ne 6, (38, 0, 0, 0, 0, 0)), (35, 2, .bipush (-4), (0, 0, 0, 0, 0, 0)),
  (37, 1, .ireturn, (0, 0, 0, 0, 0, 0)), (38, 1, .aload_n 0, (0, 0, 0, 0, 0, 0)), (39, 3, .getfield 42, (5, 5, 2, 0, 0, 0)), (42, 1, .iconst 1, (0, 0, 0, 0, 0, 0)), (43, 3, .invokevirtual 172, (44, 0, 1, 1, 2, 2)), (46, 3, .ifCond .ne 6, (52, 0, 0, 0, 0, 0)),
  (49, 2, .bipush (-2), (0, 0, 0, 0, 0, 0)), (51, 1, .ireturn, (0, 0, 0, 0, 0, 0)), (52, 1, .aload_n 0, (0, 0, 0, 0, 0, 0)), (53, 3, .getfield 30, (5, 3, 2, 0, 0, 0)), (56, 1, .iload_n 1, (0, 0, 0, 0, 0, 0)), (57, 1, .iload_n 2, (0, 0, 0, 0, 0, 0)),
  (58, 3, .invokevirtual 175, (11, 0, 2, 0, 3, 0)), (61, 1, .aload_n 0, (0, 0, 0, 0, 0, 0)), (62, 3, .getfield 42, (5, 5, 2, 0, 0, 0)), (65, 1, .aload_n 0, (0, 0, 0, 0, 0, 0)), (66, 3, .getfield 30, (5, 3, 2, 0, 0, 0)), (69, 3, .invokevirtual 178, (46, 0, 1, 0, 2, 2)),
  (72, 1, .iload_n 2, (0, 0, 0, 0, 0, 0)), (73, 1, .ireturn, (0, 0, 0, 0, 0, 0))]
def z_X5_down : List zI := [
  (0, 1, .aload_n 0, (0, 0, 0, 0, 0, 0)), (1, 3, .getfield 21, (5, 2, 2, 0, 0, 0)), (4, 1, .iload_n 1, (0, 0, 0, 0, 0, 0)), (5, 3, .invokevirtual 139, (33, 0, 1, 1, 2, 1)), (8, 3, .ifCond .ne 5, (13, 0, 0, 0, 0, 0)), (11, 1, .iconst (-1), (0, 0, 0, 0, 0, 0)),
  (12, 1, .ireturn, (0, 0, 0, 0, 0, 0)), (13, 1, .aload_n 0, (0, 0, 0, 0, 0, 0)), (14, 3, .getfield 30, (5, 3, 2, 0, 0, 0)), (17, 1, .iload_n 1, (0, 0, 0, 0, 0, 0)), (18, 3, .invokevirtual 181, (10, 0, 1, 1, 2, 0)), (21, 3, .ifCond .ne 6, (27, 0, 0, 0, 0, 0)),
  (24, 2, .bipush (-4), (0, 0, 0, 0, 0, 0)), (26, 1, .ireturn, (0, 0, 0, 0, 0, 0)), (27, 1, .aload_n 0, (0, 0, 0, 0, 0, 0)), (28, 3, .getfield 42, (5, 5, 2, 0, 0, 0)), (31, 1, .iconst 1, (0, 0, 0, 0, 0, 0)), (32, 3, .invokevirtual 172, (44, 0, 1, 1, 2, 2)),
  (35, 3, .ifCond .ne 6, (41, 0, 0, 0, 0, 0)), (38, 2, .bipush (-2), (0, 0, 0, 0, 0, 0)), (40, 1, .ireturn, (0, 0, 0, 0, 0, 0)), (41, 1, .aload_n 0, (0, 0, 0, 0, 0, 0)), (42, 3, .getfield 30, (5, 3, 2, 0, 0, 0)), (45, 3, .getfield 184, (0, 1, 2, 1, 0, 0)),
  (48, 1, .iload_n 1, (0, 0, 0, 0, 0, 0)), (49, 1, .iaload, (0, 0, 0, 0, 0, 0)), (50, 1, .istore_n 2, (0, 0, 0, 0, 0, 0)), (51, 1, .aload_n 0, (0, 0, 0, 0, 0, 0)), (52, 3, .getfield 30, (5, 3, 2, 0, 0, 0)), (55, 1, .iload_n 1, (0, 0, 0, 0, 0, 0)),
  (56, 2, .bipush (-9), (0, 0, 0, 0, 0, 0)), (58, 3, .invokevirtual 175, (11, 0, 2, 0, 3, 0)), (61, 1, .aload_n 0, (0, 0, 0, 0, 0, 0)), (62, 3, .getfield 42, (5, 5, 2, 0, 0, 0)), (65, 1, .aload_n 0, (0, 0, 0, 0, 0, 0)), (66, 3, .getfield 30, (5, 3, 2, 0, 0, 0)),
  (69, 3, .invokevirtual 178, (46, 0, 1, 0, 2, 2)), (72, 1, .iload_n 2, (0, 0, 0, 0, 0, 0)), (73, 1, .ireturn, (0, 0, 0, 0, 0, 0))]
def z_X5_change : List zI := [
  (0, 1, .aload_n 0, (0, 0, 0, 0, 0, 0)), (1, 3, .getfield 21, (5, 2, 2, 0, 0, 0)), (4, 1, .iload_n 1, (0, 0, 0, 0, 0, 0)), (5, 3, .invokevirtual 139, (33, 0, 1, 1, 2, 1)), (8, 3, .ifCond .eq 19, (27, 0, 0, 0, 0, 0)), (11, 1, .aload_n 0, (0, 0, 0, 0, 0, 0)),
  (12, 3, .getfield 21, (5, 2, 2, 0, 0, 0)), (15, 1, .iload_n 2, (0, 0, 0, 0, 0, 0)), (16, 3, .invokevirtual 139, (33, 0, 1, 1, 2, 1)), (19, 3, .ifCond .eq 8, (27, 0, 0, 0, 0, 0)), (22, 1, .iload_n 1, (0, 0, 0, 0, 0, 0)), (23, 1, .iload_n 2, (0, 0, 0, 0, 0, 0)),
  (24, 3, .if_icmp .ne 5, (29, 0, 0, 0, 0, 0)), (27, 1, .iconst (-1), (0, 0, 0, 0, 0, 0)), (28, 1, .ireturn, (0, 0, 0, 0, 0, 0)), (29, 1, .aload_n 0, (0, 0, 0, 0, 0, 0)), (30, 3, .getfield 30, (5, 3, 2, 0, 0, 0)), (33, 1, .iload_n 1, (0, 0, 0, 0, 0, 0)),
  (34, 3, .invokevirtual 181, (10, 0, 1, 1, 2, 0)), (37, 3, .ifCond .ne 17, (54, 0, 0, 0, 0, 0)), (40, 1, .aload_n 0, (0, 0, 0, 0, 0, 0)), (41, 3, .getfield 30, (5, 3, 2, 0, 0, 0)), (44, 1, .iload_n 2, (0, 0, 0, 0, 0, 0)), (45, 3, .invokevirtual 181, (10, 0, 1, 1, 2, 0)),
  (48, 3, .ifCond .ne 6, (54, 0, 0, 0, 0, 0)), (51, 2, .bipush (-4), (0, 0, 0, 0, 0, 0)), (53, 1, .ireturn, (0, 0, 0, 0, 0, 0)), (54, 1, .aload_n 0, (0, 0, 0, 0, 0, 0)), (55, 3, .getfield 42, (5, 5, 2, 0, 0, 0)), (58, 1, .iconst 1, (0, 0, 0, 0, 0, 0)),
  (59, 3, .invokevirtual 172, (44, 0, 1, 1, 2, 2)), (62, 3, .ifCond .ne 6, (68, 0, 0, 0, 0, 0)), (65, 2, .bipush (-2), (0, 0, 0, 0, 0, 0)), (67, 1, .ireturn, (0, 0, 0, 0, 0, 0)), (68, 1, .aload_n 0, (0, 0, 0, 0, 0, 0)), (69, 3, .getfield 30, (5, 3, 2, 0, 0, 0)),
  (72, 1, .iload_n 1, (0, 0, 0, 0, 0, 0)), (73, 1, .iload_n 2, (0, 0, 0, 0, 0, 0)), (74, 3, .invokevirtual 187, (12, 0, 2, 0, 5, 0)), (77, 1, .aload_n 0, (0, 0, 0, 0, 0, 0)), (78, 3, .getfield 42, (5, 5, 2, 0, 0, 0)), (81, 1, .aload_n 0, (0, 0, 0, 0, 0, 0)),
  (82, 3, .getfield 30, (5, 3, 2, 0, 0, 0)), (85, 3, .invokevirtual 178, (46, 0, 1, 0, 2, 2)), (88, 1, .iconst 1, (0, 0, 0, 0, 0, 0)), (89, 1, .ireturn, (0, 0, 0, 0, 0, 0))]
def z_X5_line : List zI := [
  (0, 1, .aload_n 0, (0, 0, 0, 0, 0, 0)), (1, 3, .getfield 21, (5, 2, 2, 0, 0, 0)), (4, 1, .iload_n 1, (0, 0, 0, 0, 0, 0)), (5, 3, .invokevirtual 139, (33, 0, 1, 1, 2, 1)), (8, 3, .ifCond .eq 14, (22, 0, 0, 0, 0, 0)), (11, 1, .iload_n 2, (0, 0, 0, 0, 0, 0)),
  (12, 1, .iconst 1, (0, 0, 0, 0, 0, 0)), (13, 3, .if_icmp .lt 9, (22, 0, 0, 0, 0, 0)), (16, 1, .iload_n 2, (0, 0, 0, 0, 0, 0)), (17, 2, .bipush 9, (0, 0, 0, 0, 0, 0)), (19, 3, .if_icmp .le 5, (24, 0, 0, 0, 0, 0)), (22, 1, .iconst (-1), (0, 0, 0, 0, 0, 0)),
  (23, 1, .ireturn, (0, 0, 0, 0, 0, 0)), (24, 1, .aload_n 0, (0, 0, 0, 0, 0, 0)), (25, 3, .getfield 30, (5, 3, 2, 0, 0, 0)), (28, 3, .getfield 190, (0, 3, 2, 1, 0, 0)), (31, 1, .iload_n 1, (0, 0, 0, 0, 0, 0)), (32, 1, .iaload, (0, 0, 0, 0, 0, 0)),
  (33, 1, .istore_n 3, (0, 0, 0, 0, 0, 0)), (34, 1, .iload_n 3, (0, 0, 0, 0, 0, 0)), (35, 1, .iload_n 2, (0, 0, 0, 0, 0, 0)), (36, 3, .if_icmp .ne 6, (42, 0, 0, 0, 0, 0)), (39, 2, .bipush (-4), (0, 0, 0, 0, 0, 0)), (41, 1, .ireturn, (0, 0, 0, 0, 0, 0)),
  (42, 1, .aload_n 0, (0, 0, 0, 0, 0, 0)), (43, 3, .getfield 42, (5, 5, 2, 0, 0, 0)), (46, 1, .iconst 1, (0, 0, 0, 0, 0, 0)), (47, 3, .invokevirtual 172, (44, 0, 1, 1, 2, 2)), (50, 3, .ifCond .ne 6, (56, 0, 0, 0, 0, 0)), (53, 2, .bipush (-2), (0, 0, 0, 0, 0, 0)),
  (55, 1, .ireturn, (0, 0, 0, 0, 0, 0)), (56, 1, .aload_n 0, (0, 0, 0, 0, 0, 0)), (57, 3, .getfield 30, (5, 3, 2, 0, 0, 0)), (60, 3, .getfield 190, (0, 3, 2, 1, 0, 0)), (63, 1, .iload_n 1, (0, 0, 0, 0, 0, 0)), (64, 1, .iload_n 2, (0, 0, 0, 0, 0, 0)),
  (65, 1, .iastore, (0, 0, 0, 0, 0, 0)), (66, 1, .aload_n 0, (0, 0, 0, 0, 0, 0)), (67, 3, .getfield 42, (5, 5, 2, 0, 0, 0)), (70, 1, .aload_n 0, (0, 0, 0, 0, 0, 0)), (71, 3, .getfield 30, (5, 3, 2, 0, 0, 0)), (74, 3, .invokevirtual 178, (46, 0, 1, 0, 2, 2)),
  (77, 1, .iload_n 3, (0, 0, 0, 0, 0, 0)), (78, 1, .ireturn, (0, 0, 0, 0, 0, 0))]
def z_X5_night : List zI := [
  (0, 1, .iload_n 1, (0, 0, 0, 0, 0, 0)), (1, 3, .invokestatic 193, (108, 2, 1, 1, 1, 0)), (4, 3, .ifCond .ne 5, (9, 0, 0, 0, 0, 0)), (7, 1, .iconst (-1), (0, 0, 0, 0, 0, 0)), (8, 1, .ireturn, (0, 0, 0, 0, 0, 0)), (9, 1, .aload_n 0, (0, 0, 0, 0, 0, 0)),
  (10, 3, .getfield 21, (5, 2, 2, 0, 0, 0)), (13, 3, .getfield 136, (1, 1, 0, 1, 0, 0)), (16, 3, .ifCond .ne 6, (22, 0, 0, 0, 0, 0)), (19, 2, .bipush (-4), (0, 0, 0, 0, 0, 0)), (21, 1, .ireturn, (0, 0, 0, 0, 0, 0)), (22, 1, .aload_n 0, (0, 0, 0, 0, 0, 0)),
  (23, 3, .getfield 42, (5, 5, 2, 0, 0, 0)), (26, 1, .iconst 1, (0, 0, 0, 0, 0, 0)), (27, 3, .invokevirtual 172, (44, 0, 1, 1, 2, 2)), (30, 3, .ifCond .ne 6, (36, 0, 0, 0, 0, 0)), (33, 2, .bipush (-2), (0, 0, 0, 0, 0, 0)), (35, 1, .ireturn, (0, 0, 0, 0, 0, 0)),
  (36, 1, .aload_n 0, (0, 0, 0, 0, 0, 0)), (37, 1, .iload_n 1, (0, 0, 0, 0, 0, 0)), (38, 3, .invokevirtual 196, (115, 0, 1, 1, 3, 5)), (41, 1, .ireturn, (0, 0, 0, 0, 0, 0))]
def z_X5_undo : List zI := [
  (0, 1, .iload_n 1, (0, 0, 0, 0, 0, 0)), (1, 3, .ifCond .lt 14, (15, 0, 0, 0, 0, 0)), (4, 1, .iload_n 1, (0, 0, 0, 0, 0, 0)), (5, 1, .aload_n 0, (0, 0, 0, 0, 0, 0)), (6, 3, .getfield 42, (5, 5, 2, 0, 0, 0)), (9, 3, .getfield 199, (2, 1, 0, 1, 0, 0)),
  (12, 3, .if_icmp .le 5, (17, 0, 0, 0, 0, 0)), (15, 1, .iconst (-1), (0, 0, 0, 0, 0, 0)), (16, 1, .ireturn, (0, 0, 0, 0, 0, 0)), (17, 1, .aload_n 0, (0, 0, 0, 0, 0, 0)), (18, 3, .getfield 42, (5, 5, 2, 0, 0, 0)), (21, 3, .getfield 199, (2, 1, 0, 1, 0, 0)),
  (24, 1, .iload_n 1, (0, 0, 0, 0, 0, 0)), (25, 1, .isub, (0, 0, 0, 0, 0, 0)), (26, 1, .istore_n 2, (0, 0, 0, 0, 0, 0)), (27, 1, .aload_n 0, (0, 0, 0, 0, 0, 0)), (28, 3, .getfield 42, (5, 5, 2, 0, 0, 0)), (31, 1, .iload_n 1, (0, 0, 0, 0, 0, 0)),
  (32, 1, .aload_n 0, (0, 0, 0, 0, 0, 0)), (33, 3, .getfield 30, (5, 3, 2, 0, 0, 0)), (36, 3, .invokevirtual 202, (49, 0, 2, 0, 3, 2)), (39, 1, .iload_n 2, (0, 0, 0, 0, 0, 0)), (40, 1, .ireturn, (0, 0, 0, 0, 0, 0))]
def z_X5_keep : List zI := [
  (0, 1, .aload_n 0, (0, 0, 0, 0, 0, 0)), (1, 1, .iload_n 1, (0, 0, 0, 0, 0, 0)), (2, 3, .invokevirtual 206, (109, 0, 1, 1, 2, 5)), (5, 3, .ifCond .ne 5, (10, 0, 0, 0, 0, 0)), (8, 1, .iconst (-1), (0, 0, 0, 0, 0, 0)), (9, 1, .ireturn, (0, 0, 0, 0, 0, 0)),
  (10, 1, .aload_n 0, (0, 0, 0, 0, 0, 0)), (11, 3, .getfield 21, (5, 2, 2, 0, 0, 0)), (14, 3, .getfield 136, (1, 1, 0, 1, 0, 0)), (17, 3, .ifCond .ne 6, (23, 0, 0, 0, 0, 0)), (20, 2, .bipush (-4), (0, 0, 0, 0, 0, 0)), (22, 1, .ireturn, (0, 0, 0, 0, 0, 0)),
  (23, 1, .aload_n 0, (0, 0, 0, 0, 0, 0)), (24, 3, .getfield 46, (5, 6, 2, 0, 0, 0)), (27, 1, .iload_n 1, (0, 0, 0, 0, 0, 0)), (28, 1, .aaload, (0, 0, 0, 0, 0, 0)), (29, 1, .aload_n 0, (0, 0, 0, 0, 0, 0)), (30, 3, .getfield 42, (5, 5, 2, 0, 0, 0)),
  (33, 3, .invokevirtual 209, (48, 0, 1, 0, 2, 2)), (36, 1, .aload_n 0, (0, 0, 0, 0, 0, 0)), (37, 3, .getfield 42, (5, 5, 2, 0, 0, 0)), (40, 3, .getfield 199, (2, 1, 0, 1, 0, 0)), (43, 1, .ireturn, (0, 0, 0, 0, 0, 0))]
def z_X5_on : List zI := [
  (0, 1, .aload_n 0, (0, 0, 0, 0, 0, 0)), (1, 1, .iload_n 1, (0, 0, 0, 0, 0, 0)), (2, 3, .invokevirtual 206, (109, 0, 1, 1, 2, 5)), (5, 3, .ifCond .ne 5, (10, 0, 0, 0, 0, 0)), (8, 1, .iconst (-1), (0, 0, 0, 0, 0, 0)), (9, 1, .ireturn, (0, 0, 0, 0, 0, 0)),
  (10, 1, .aload_n 0, (0, 0, 0, 0, 0, 0)), (11, 3, .getfield 46, (5, 6, 2, 0, 0, 0)), (14, 1, .iload_n 1, (0, 0, 0, 0, 0, 0)), (15, 1, .aaload, (0, 0, 0, 0, 0, 0)), (16, 3, .invokevirtual 213, (43, 0, 0, 1, 1, 2)), (19, 3, .ifCond .eq 9, (28, 0, 0, 0, 0, 0)),
  (22, 1, .aload_n 0, (0, 0, 0, 0, 0, 0)), (23, 1, .iconst 1, (0, 0, 0, 0, 0, 0)), (24, 3, .invokevirtual 81, (110, 0, 1, 1, 2, 5)), (27, 1, .ireturn, (0, 0, 0, 0, 0, 0)), (28, 1, .aload_n 0, (0, 0, 0, 0, 0, 0)), (29, 3, .getfield 42, (5, 5, 2, 0, 0, 0)),
  (32, 1, .aload_n 0, (0, 0, 0, 0, 0, 0)), (33, 3, .getfield 46, (5, 6, 2, 0, 0, 0)), (36, 1, .iload_n 1, (0, 0, 0, 0, 0, 0)), (37, 1, .aaload, (0, 0, 0, 0, 0, 0)), (38, 3, .invokevirtual 209, (48, 0, 1, 0, 2, 2)), (41, 1, .aload_n 0, (0, 0, 0, 0, 0, 0)),
  (42, 3, .getfield 42, (5, 5, 2, 0, 0, 0)), (45, 1, .aload_n 0, (0, 0, 0, 0, 0, 0)), (46, 3, .getfield 42, (5, 5, 2, 0, 0, 0)), (49, 3, .getfield 199, (2, 1, 0, 1, 0, 0)), (52, 1, .aload_n 0, (0, 0, 0, 0, 0, 0)), (53, 3, .getfield 30, (5, 3, 2, 0, 0, 0)),
  (56, 3, .invokevirtual 202, (49, 0, 2, 0, 3, 2)), (59, 1, .aload_n 0, (0, 0, 0, 0, 0, 0)), (60, 3, .getfield 42, (5, 5, 2, 0, 0, 0)), (63, 3, .getfield 199, (2, 1, 0, 1, 0, 0)), (66, 1, .ireturn, (0, 0, 0, 0, 0, 0))]
def z_X5_neighbours : List zI := [
  (0, 1, .aload_n 0, (0, 0, 0, 0, 0, 0)), (1, 3, .getfield 21, (5, 2, 2, 0, 0, 0)), (4, 1, .iload_n 1, (0, 0, 0, 0, 0, 0)), (5, 3, .invokevirtual 139, (33, 0, 1, 1, 2, 1)), (8, 3, .ifCond .eq 10, (18, 0, 0, 0, 0, 0)), (11, 1, .iload_n 2, (0, 0, 0, 0, 0, 0)),
  (12, 3, .invokestatic 193, (108, 2, 1, 1, 1, 0)), (15, 3, .ifCond .ne 5, (20, 0, 0, 0, 0, 0)), (18, 1, .iconst (-1), (0, 0, 0, 0, 0, 0)), (19, 1, .ireturn, (0, 0, 0, 0, 0, 0)), (20, 1, .aload_n 0, (0, 0, 0, 0, 0, 0)), (21, 3, .getfield 30, (5, 3, 2, 0, 0, 0)),
  (24, 1, .iload_n 1, (0, 0, 0, 0, 0, 0)), (25, 1, .iload_n 2, (0, 0, 0, 0, 0, 0)), (26, 3, .invokevirtual 155, (22, 0, 2, 1, 3, 0)), (29, 1, .ireturn, (0, 0, 0, 0, 0, 0))]
def z_X5_woken : List zI := [
  (0, 1, .aload_n 0, (0, 0, 0, 0, 0, 0)), (1, 3, .getfield 21, (5, 2, 2, 0, 0, 0)), (4, 1, .iload_n 1, (0, 0, 0, 0, 0, 0)), (5, 3, .invokevirtual 139, (33, 0, 1, 1, 2, 1)), (8, 3, .ifCond .eq 10, (18, 0, 0, 0, 0, 0)), (11, 1, .iload_n 2, (0, 0, 0, 0, 0, 0)),
  (12, 3, .invokestatic 193, (108, 2, 1, 1, 1, 0)), (15, 3, .ifCond .ne 5, (20, 0, 0, 0, 0, 0)), (18, 1, .iconst (-1), (0, 0, 0, 0, 0, 0)), (19, 1, .ireturn, (0, 0, 0, 0, 0, 0)), (20, 1, .aload_n 0, (0, 0, 0, 0, 0, 0)), (21, 3, .getfield 30, (5, 3, 2, 0, 0, 0)),
  (24, 1, .iload_n 1, (0, 0, 0, 0, 0, 0)), (25, 1, .iload_n 2, (0, 0, 0, 0, 0, 0)), (26, 3, .invokevirtual 166, (23, 0, 2, 1, 5, 0)), (29, 1, .ireturn, (0, 0, 0, 0, 0, 0))]
def z_X5_all : List zI := [
  (0, 1, .iload_n 1, (0, 0, 0, 0, 0, 0)), (1, 3, .invokestatic 193, (108, 2, 1, 1, 1, 0)), (4, 3, .ifCond .ne 5, (9, 0, 0, 0, 0, 0)), (7, 1, .iconst (-1), (0, 0, 0, 0, 0, 0)), (8, 1, .ireturn, (0, 0, 0, 0, 0, 0)), (9, 1, .aload_n 0, (0, 0, 0, 0, 0, 0)),
  (10, 1, .aload_n 0, (0, 0, 0, 0, 0, 0)), (11, 3, .getfield 30, (5, 3, 2, 0, 0, 0)), (14, 1, .iload_n 1, (0, 0, 0, 0, 0, 0)), (15, 3, .invokevirtual 214, (20, 0, 1, 1, 4, 0)), (18, 3, .invokevirtual 92, (111, 0, 1, 0, 2, 5)), (21, 1, .aload_n 0, (0, 0, 0, 0, 0, 0)),
  (22, 3, .getfield 30, (5, 3, 2, 0, 0, 0)), (25, 1, .iload_n 1, (0, 0, 0, 0, 0, 0)), (26, 3, .invokevirtual 217, (25, 0, 1, 1, 4, 0)), (29, 1, .ireturn, (0, 0, 0, 0, 0, 0))]
def z_X5_worst : List zI := [
  (0, 1, .iload_n 1, (0, 0, 0, 0, 0, 0)), (1, 3, .invokestatic 193, (108, 2, 1, 1, 1, 0)), (4, 3, .ifCond .ne 5, (9, 0, 0, 0, 0, 0)), (7, 1, .iconst (-1), (0, 0, 0, 0, 0, 0)), (8, 1, .ireturn, (0, 0, 0, 0, 0, 0)), (9, 2, .bipush (-9), (0, 0, 0, 0, 0, 0)),
  (11, 1, .istore_n 2, (0, 0, 0, 0, 0, 0)), (12, 1, .iconst (-1), (0, 0, 0, 0, 0, 0)), (13, 1, .istore_n 3, (0, 0, 0, 0, 0, 0)), (14, 1, .iconst 0, (0, 0, 0, 0, 0, 0)), (15, 2, .istore 4, (0, 0, 0, 0, 0, 0)), (17, 2, .iload 4, (0, 0, 0, 0, 0, 0)),
  (19, 1, .aload_n 0, (0, 0, 0, 0, 0, 0)), (20, 3, .getfield 21, (5, 2, 2, 0, 0, 0)), (23, 3, .getfield 136, (1, 1, 0, 1, 0, 0)), (26, 3, .if_icmp .ge 46, (72, 0, 0, 0, 0, 0)), (29, 1, .aload_n 0, (0, 0, 0, 0, 0, 0)), (30, 3, .getfield 30, (5, 3, 2, 0, 0, 0)),
  (33, 2, .iload 4, (0, 0, 0, 0, 0, 0)), (35, 1, .iload_n 1, (0, 0, 0, 0, 0, 0)), (36, 3, .invokevirtual 166, (23, 0, 2, 1, 5, 0)), (39, 2, .istore 5, (0, 0, 0, 0, 0, 0)), (41, 1, .aload_n 0, (0, 0, 0, 0, 0, 0)), (42, 3, .getfield 30, (5, 3, 2, 0, 0, 0)),
  (45, 2, .iload 4, (0, 0, 0, 0, 0, 0)), (47, 1, .iload_n 1, (0, 0, 0, 0, 0, 0)), (48, 3, .invokevirtual 220, (19, 0, 2, 1, 3, 0)), (51, 3, .ifCond .eq 15, (66, 0, 0, 0, 0, 0)), (54, 2, .iload 5, (0, 0, 0, 0, 0, 0)), (56, 1, .iload_n 3, (0, 0, 0, 0, 0, 0)),
  (57, 3, .if_icmp .le 9, (66, 0, 0, 0, 0, 0)), (60, 2, .iload 4, (0, 0, 0, 0, 0, 0)), (62, 1, .istore_n 2, (0, 0, 0, 0, 0, 0)), (63, 2, .iload 5, (0, 0, 0, 0, 0, 0)), (65, 1, .istore_n 3, (0, 0, 0, 0, 0, 0)), (66, 3, .iinc 4 1, (0, 0, 0, 0, 0, 0)),
  (69, 3, .goto (-52), (17, 32, 0, 0, 0, 0)), (72, 1, .iload_n 2, (0, 0, 0, 0, 0, 0)), (73, 2, .bipush (-9), (0, 0, 0, 0, 0, 0)), (75, 3, .if_icmp .eq 8, (83, 0, 0, 0, 0, 0)), (78, 1, .aload_n 0, (0, 0, 0, 0, 0, 0)), (79, 1, .iload_n 3, (0, 0, 0, 0, 0, 0)),
  (80, 3, .invokevirtual 92, (111, 0, 1, 0, 2, 5)), (83, 1, .iload_n 2, (0, 0, 0, 0, 0, 0)), (84, 1, .ireturn, (0, 0, 0, 0, 0, 0))]
def z_X5_by : List zI := [
  (0, 1, .aload_n 0, (0, 0, 0, 0, 0, 0)), (1, 3, .getfield 21, (5, 2, 2, 0, 0, 0)), (4, 1, .iload_n 1, (0, 0, 0, 0, 0, 0)), (5, 3, .invokevirtual 139, (33, 0, 1, 1, 2, 1)), (8, 3, .ifCond .eq 10, (18, 0, 0, 0, 0, 0)), (11, 1, .iload_n 2, (0, 0, 0, 0, 0, 0)),
  (12, 3, .invokestatic 193, (108, 2, 1, 1, 1, 0)), (15, 3, .ifCond .ne 5, (20, 0, 0, 0, 0, 0)), (18, 1, .iconst (-1), (0, 0, 0, 0, 0, 0)), (19, 1, .ireturn, (0, 0, 0, 0, 0, 0)), (20, 1, .aload_n 0, (0, 0, 0, 0, 0, 0)), (21, 3, .getfield 30, (5, 3, 2, 0, 0, 0)),
  (24, 1, .iload_n 1, (0, 0, 0, 0, 0, 0)), (25, 1, .iload_n 2, (0, 0, 0, 0, 0, 0)), (26, 3, .invokevirtual 220, (19, 0, 2, 1, 3, 0)), (29, 3, .ifCond .ne 6, (35, 0, 0, 0, 0, 0)), (32, 2, .bipush (-9), (0, 0, 0, 0, 0, 0)), (34, 1, .ireturn, (0, 0, 0, 0, 0, 0)),
  (35, 1, .aload_n 0, (0, 0, 0, 0, 0, 0)), (36, 3, .getfield 30, (5, 3, 2, 0, 0, 0)), (39, 1, .iload_n 1, (0, 0, 0, 0, 0, 0)), (40, 1, .iload_n 2, (0, 0, 0, 0, 0, 0)), (41, 3, .invokevirtual 155, (22, 0, 2, 1, 3, 0)), (44, 1, .istore_n 3, (0, 0, 0, 0, 0, 0)),
  (45, 2, .bipush (-9), (0, 0, 0, 0, 0, 0)), (47, 2, .istore 4, (0, 0, 0, 0, 0, 0)), (49, 1, .iconst (-1), (0, 0, 0, 0, 0, 0)), (50, 2, .istore 5, (0, 0, 0, 0, 0, 0)), (52, 1, .iconst 0, (0, 0, 0, 0, 0, 0)), (53, 2, .istore 6, (0, 0, 0, 0, 0, 0)),
  (55, 2, .iload 6, (0, 0, 0, 0, 0, 0)), (57, 1, .aload_n 0, (0, 0, 0, 0, 0, 0)), (58, 3, .getfield 21, (5, 2, 2, 0, 0, 0)), (61, 3, .getfield 136, (1, 1, 0, 1, 0, 0)), (64, 3, .if_icmp .ge 56, (120, 0, 0, 0, 0, 0)), (67, 1, .iload_n 3, (0, 0, 0, 0, 0, 0)),
  (68, 1, .iconst 1, (0, 0, 0, 0, 0, 0)), (69, 2, .iload 6, (0, 0, 0, 0, 0, 0)), (71, 1, .ishl, (0, 0, 0, 0, 0, 0)), (72, 1, .iand, (0, 0, 0, 0, 0, 0)), (73, 3, .ifCond .ne 6, (79, 0, 0, 0, 0, 0)), (76, 3, .goto 38, (114, 0, 0, 0, 0, 0)),
  (79, 1, .aload_n 0, (0, 0, 0, 0, 0, 0)), (80, 3, .getfield 30, (5, 3, 2, 0, 0, 0)), (83, 1, .iload_n 1, (0, 0, 0, 0, 0, 0)), (84, 1, .iload_n 2, (0, 0, 0, 0, 0, 0)), (85, 3, .invokevirtual 166, (23, 0, 2, 1, 5, 0)), (88, 1, .aload_n 0, (0, 0, 0, 0, 0, 0)),
  (89, 2, .iload 6, (0, 0, 0, 0, 0, 0)), (91, 1, .iload_n 1, (0, 0, 0, 0, 0, 0)), (92, 1, .iload_n 2, (0, 0, 0, 0, 0, 0)), (93, 3, .invokevirtual 223, (116, 0, 3, 1, 4, 5)), (96, 1, .isub, (0, 0, 0, 0, 0, 0)), (97, 2, .istore 7, (0, 0, 0, 0, 0, 0)),
  (99, 2, .iload 7, (0, 0, 0, 0, 0, 0)), (101, 2, .iload 5, (0, 0, 0, 0, 0, 0)), (103, 3, .if_icmp .le 11, (114, 0, 0, 0, 0, 0)), (106, 2, .iload 6, (0, 0, 0, 0, 0, 0)), (108, 2, .istore 4, (0, 0, 0, 0, 0, 0)), (110, 2, .iload 7, (0, 0, 0, 0, 0, 0)),
  (112, 2, .istore 5, (0, 0, 0, 0, 0, 0)), (114, 3, .iinc 6 1, (0, 0, 0, 0, 0, 0)), (117, 3, .goto (-62), (55, 128, 0, 0, 0, 0)), (120, 2, .iload 4, (0, 0, 0, 0, 0, 0)), (122, 2, .bipush (-9), (0, 0, 0, 0, 0, 0)), (124, 3, .if_icmp .eq 9, (133, 0, 0, 0, 0, 0)),
  (127, 1, .aload_n 0, (0, 0, 0, 0, 0, 0)), (128, 2, .iload 5, (0, 0, 0, 0, 0, 0)), (130, 3, .invokevirtual 92, (111, 0, 1, 0, 2, 5)), (133, 2, .iload 4, (0, 0, 0, 0, 0, 0)), (135, 1, .ireturn, (0, 0, 0, 0, 0, 0))]
def z_X5_best : List zI := [
  (0, 1, .iload_n 1, (0, 0, 0, 0, 0, 0)), (1, 3, .invokestatic 193, (108, 2, 1, 1, 1, 0)), (4, 3, .ifCond .eq 17, (21, 0, 0, 0, 0, 0)), (7, 1, .aload_n 0, (0, 0, 0, 0, 0, 0)), (8, 1, .iconst 0, (0, 0, 0, 0, 0, 0)), (9, 1, .iload_n 1, (0, 0, 0, 0, 0, 0)),
  (10, 1, .aload_n 0, (0, 0, 0, 0, 0, 0)), (11, 1, .iload_n 2, (0, 0, 0, 0, 0, 0)), (12, 3, .invokevirtual 69, (106, 0, 1, 3, 2, 5)), (15, 3, .invokevirtual 227, (118, 0, 3, 1, 8, 5)), (18, 3, .goto 4, (22, 0, 0, 0, 0, 0)), (21, 1, .iconst (-1), (0, 0, 0, 0, 0, 0)),
  (22, 1, .ireturn, (0, 0, 0, 0, 0, 0))]
def z_X5_fair : List zI := [
  (0, 1, .iload_n 1, (0, 0, 0, 0, 0, 0)), (1, 3, .invokestatic 193, (108, 2, 1, 1, 1, 0)), (4, 3, .ifCond .eq 17, (21, 0, 0, 0, 0, 0)), (7, 1, .aload_n 0, (0, 0, 0, 0, 0, 0)), (8, 1, .iconst 1, (0, 0, 0, 0, 0, 0)), (9, 1, .iload_n 1, (0, 0, 0, 0, 0, 0)),
  (10, 1, .aload_n 0, (0, 0, 0, 0, 0, 0)), (11, 1, .iload_n 2, (0, 0, 0, 0, 0, 0)), (12, 3, .invokevirtual 69, (106, 0, 1, 3, 2, 5)), (15, 3, .invokevirtual 227, (118, 0, 3, 1, 8, 5)), (18, 3, .goto 4, (22, 0, 0, 0, 0, 0)), (21, 1, .iconst (-1), (0, 0, 0, 0, 0, 0)),
  (22, 1, .ireturn, (0, 0, 0, 0, 0, 0))]
def z_X5_mixed : List zI := [
  (0, 1, .aload_n 0, (0, 0, 0, 0, 0, 0)), (1, 1, .iconst 2, (0, 0, 0, 0, 0, 0)), (2, 1, .iconst 0, (0, 0, 0, 0, 0, 0)), (3, 1, .aload_n 0, (0, 0, 0, 0, 0, 0)), (4, 1, .iload_n 1, (0, 0, 0, 0, 0, 0)), (5, 3, .invokevirtual 69, (106, 0, 1, 3, 2, 5)),
  (8, 3, .invokevirtual 227, (118, 0, 3, 1, 8, 5)), (11, 1, .ireturn, (0, 0, 0, 0, 0, 0))]
def z_X5_judge : List zI := [
  (0, 1, .aload_n 0, (0, 0, 0, 0, 0, 0)), (1, 1, .iload_n 1, (0, 0, 0, 0, 0, 0)), (2, 3, .invokevirtual 69, (106, 0, 1, 3, 2, 5)), (5, 1, .astore_n 3, (0, 0, 0, 0, 0, 0)), (6, 1, .aload_n 3, (0, 0, 0, 0, 0, 0)), (7, 3, .ifnull 10, (17, 0, 0, 0, 0, 0)),
  (10, 1, .iload_n 2, (0, 0, 0, 0, 0, 0)), (11, 3, .invokestatic 193, (108, 2, 1, 1, 1, 0)), (14, 3, .ifCond .ne 5, (19, 0, 0, 0, 0, 0)), (17, 1, .iconst (-1), (0, 0, 0, 0, 0, 0)), (18, 1, .ireturn, (0, 0, 0, 0, 0, 0)), (19, 1, .aload_n 0, (0, 0, 0, 0, 0, 0)),
  (20, 3, .getfield 21, (5, 2, 2, 0, 0, 0)), (23, 3, .getfield 136, (1, 1, 0, 1, 0, 0)), (26, 3, .ifCond .ne 6, (32, 0, 0, 0, 0, 0)), (29, 2, .bipush (-4), (0, 0, 0, 0, 0, 0)), (31, 1, .ireturn, (0, 0, 0, 0, 0, 0)), (32, 1, .aload_n 3, (0, 0, 0, 0, 0, 0)),
  (33, 3, .invokevirtual 77, (58, 0, 0, 1, 1, 4)), (36, 3, .ifCond .eq 9, (45, 0, 0, 0, 0, 0)), (39, 1, .aload_n 0, (0, 0, 0, 0, 0, 0)), (40, 1, .iconst 1, (0, 0, 0, 0, 0, 0)), (41, 3, .invokevirtual 81, (110, 0, 1, 1, 2, 5)), (44, 1, .ireturn, (0, 0, 0, 0, 0, 0)),
  (45, 1, .aload_n 3, (0, 0, 0, 0, 0, 0)), (46, 3, .getfield 110, (4, 1, 0, 1, 0, 0)), (49, 1, .aload_n 0, (0, 0, 0, 0, 0, 0)), (50, 3, .getfield 21, (5, 2, 2, 0, 0, 0)), (53, 3, .getfield 136, (1, 1, 0, 1, 0, 0)), (56, 3, .if_icmp .eq 9, (65, 0, 0, 0, 0, 0)),
  (59, 1, .aload_n 0, (0, 0, 0, 0, 0, 0)), (60, 1, .iconst 5, (0, 0, 0, 0, 0, 0)), (61, 3, .invokevirtual 81, (110, 0, 1, 1, 2, 5)), (64, 1, .ireturn, (0, 0, 0, 0, 0, 0)), (65, 1, .aload_n 0, (0, 0, 0, 0, 0, 0)), (66, 3, .getfield 34, (5, 4, 2, 0, 0, 0)),
  (69, 1, .aload_n 0, (0, 0, 0, 0, 0, 0)), (70, 3, .getfield 30, (5, 3, 2, 0, 0, 0)), (73, 3, .invokevirtual 231, (3, 0, 1, 0, 2, 0)), (76, 1, .aload_n 0, (0, 0, 0, 0, 0, 0)), (77, 3, .getfield 34, (5, 4, 2, 0, 0, 0)), (80, 1, .aload_n 3, (0, 0, 0, 0, 0, 0)),
  (81, 3, .invokevirtual 233, (14, 0, 1, 1, 4, 0)), (84, 3, .ifCond .ne 9, (93, 0, 0, 0, 0, 0)), (87, 1, .aload_n 0, (0, 0, 0, 0, 0, 0)), (88, 1, .iconst 3, (0, 0, 0, 0, 0, 0)), (89, 3, .invokevirtual 81, (110, 0, 1, 1, 2, 5)), (92, 1, .ireturn, (0, 0, 0, 0, 0, 0)),
  (93, 1, .aload_n 0, (0, 0, 0, 0, 0, 0)), (94, 3, .getfield 34, (5, 4, 2, 0, 0, 0)), (97, 1, .iload_n 2, (0, 0, 0, 0, 0, 0)), (98, 3, .invokevirtual 217, (25, 0, 1, 1, 4, 0)), (101, 1, .ireturn, (0, 0, 0, 0, 0, 0))]
def z_X5_gain : List zI := [
  (0, 1, .aload_n 0, (0, 0, 0, 0, 0, 0)), (1, 3, .getfield 21, (5, 2, 2, 0, 0, 0)), (4, 1, .iload_n 1, (0, 0, 0, 0, 0, 0)), (5, 3, .invokevirtual 139, (33, 0, 1, 1, 2, 1)), (8, 3, .ifCond .eq 26, (34, 0, 0, 0, 0, 0)), (11, 1, .aload_n 0, (0, 0, 0, 0, 0, 0)),
  (12, 3, .getfield 21, (5, 2, 2, 0, 0, 0)), (15, 1, .iload_n 2, (0, 0, 0, 0, 0, 0)), (16, 3, .invokevirtual 139, (33, 0, 1, 1, 2, 1)), (19, 3, .ifCond .eq 15, (34, 0, 0, 0, 0, 0)), (22, 1, .iload_n 1, (0, 0, 0, 0, 0, 0)), (23, 1, .iload_n 2, (0, 0, 0, 0, 0, 0)),
  (24, 3, .if_icmp .eq 10, (34, 0, 0, 0, 0, 0)), (27, 1, .iload_n 3, (0, 0, 0, 0, 0, 0)), (28, 3, .invokestatic 193, (108, 2, 1, 1, 1, 0)), (31, 3, .ifCond .ne 5, (36, 0, 0, 0, 0, 0)), (34, 1, .iconst (-1), (0, 0, 0, 0, 0, 0)), (35, 1, .ireturn, (0, 0, 0, 0, 0, 0)),
  (36, 1, .aload_n 0, (0, 0, 0, 0, 0, 0)), (37, 3, .getfield 34, (5, 4, 2, 0, 0, 0)), (40, 1, .aload_n 0, (0, 0, 0, 0, 0, 0)), (41, 3, .getfield 30, (5, 3, 2, 0, 0, 0)), (44, 3, .invokevirtual 231, (3, 0, 1, 0, 2, 0)), (47, 1, .aload_n 0, (0, 0, 0, 0, 0, 0)),
  (48, 3, .getfield 34, (5, 4, 2, 0, 0, 0)), (51, 1, .iload_n 1, (0, 0, 0, 0, 0, 0)), (52, 1, .iload_n 2, (0, 0, 0, 0, 0, 0)), (53, 3, .invokevirtual 187, (12, 0, 2, 0, 5, 0)), (56, 2, .bipush 100, (0, 0, 0, 0, 0, 0)), (58, 1, .aload_n 0, (0, 0, 0, 0, 0, 0)),
  (59, 3, .getfield 30, (5, 3, 2, 0, 0, 0)), (62, 1, .iload_n 3, (0, 0, 0, 0, 0, 0)), (63, 3, .invokevirtual 217, (25, 0, 1, 1, 4, 0)), (66, 1, .iadd, (0, 0, 0, 0, 0, 0)), (67, 1, .aload_n 0, (0, 0, 0, 0, 0, 0)), (68, 3, .getfield 34, (5, 4, 2, 0, 0, 0)),
  (71, 1, .iload_n 3, (0, 0, 0, 0, 0, 0)), (72, 3, .invokevirtual 217, (25, 0, 1, 1, 4, 0)), (75, 1, .isub, (0, 0, 0, 0, 0, 0)), (76, 1, .ireturn, (0, 0, 0, 0, 0, 0))]
def z_X5_calm : List zI := [
  (0, 1, .iload_n 1, (0, 0, 0, 0, 0, 0)), (1, 3, .invokestatic 193, (108, 2, 1, 1, 1, 0)), (4, 3, .ifCond .ne 5, (9, 0, 0, 0, 0, 0)), (7, 1, .iconst (-1), (0, 0, 0, 0, 0, 0)), (8, 1, .ireturn, (0, 0, 0, 0, 0, 0)), (9, 1, .aload_n 0, (0, 0, 0, 0, 0, 0)),
  (10, 1, .iload_n 1, (0, 0, 0, 0, 0, 0)), (11, 3, .invokevirtual 237, (120, 0, 1, 1, 4, 5)), (14, 1, .istore_n 2, (0, 0, 0, 0, 0, 0)), (15, 1, .aload_n 0, (0, 0, 0, 0, 0, 0)), (16, 1, .iload_n 2, (0, 0, 0, 0, 0, 0)), (17, 3, .invokevirtual 92, (111, 0, 1, 0, 2, 5)),
  (20, 1, .iload_n 2, (0, 0, 0, 0, 0, 0)), (21, 2, .bipush (-9), (0, 0, 0, 0, 0, 0)), (23, 3, .if_icmp .ne 7, (30, 0, 0, 0, 0, 0)), (26, 1, .iconst 1, (0, 0, 0, 0, 0, 0)), (27, 3, .goto 4, (31, 0, 0, 0, 0, 0)), (30, 1, .iconst 0, (0, 0, 0, 0, 0, 0)),
  (31, 1, .ireturn, (0, 0, 0, 0, 0, 0))]
def z_X5_mates : List zI := [
  (0, 1, .aload_n 0, (0, 0, 0, 0, 0, 0)), (1, 3, .getfield 21, (5, 2, 2, 0, 0, 0)), (4, 3, .getfield 136, (1, 1, 0, 1, 0, 0)), (7, 3, .ifCond .ne 6, (13, 0, 0, 0, 0, 0)), (10, 2, .bipush (-4), (0, 0, 0, 0, 0, 0)), (12, 1, .ireturn, (0, 0, 0, 0, 0, 0)),
  (13, 1, .iconst 0, (0, 0, 0, 0, 0, 0)), (14, 1, .istore_n 1, (0, 0, 0, 0, 0, 0)), (15, 1, .aload_n 0, (0, 0, 0, 0, 0, 0)), (16, 3, .invokevirtual 240, (117, 0, 0, 0, 1, 5)), (19, 1, .aload_n 0, (0, 0, 0, 0, 0, 0)), (20, 3, .getfield 21, (5, 2, 2, 0, 0, 0)),
  (23, 3, .invokevirtual 243, (37, 0, 0, 1, 3, 1)), (26, 1, .istore_n 2, (0, 0, 0, 0, 0, 0)), (27, 1, .iload_n 2, (0, 0, 0, 0, 0, 0)), (28, 3, .ifCond .le 28, (56, 0, 0, 0, 0, 0)), (31, 1, .iload_n 1, (0, 0, 0, 0, 0, 0)), (32, 1, .aload_n 0, (0, 0, 0, 0, 0, 0)),
  (33, 3, .getfield 34, (5, 4, 2, 0, 0, 0)), (36, 3, .invokevirtual 246, (18, 0, 0, 1, 5, 0)), (39, 3, .invokestatic 249, (0, 6, 0, 0, 0, 0)), (42, 1, .istore_n 1, (0, 0, 0, 0, 0, 0)), (43, 1, .aload_n 0, (0, 0, 0, 0, 0, 0)), (44, 3, .getfield 34, (5, 4, 2, 0, 0, 0)),
  (47, 3, .invokevirtual 254, (16, 0, 0, 0, 3, 0)), (50, 3, .iinc 2 (-1), (0, 0, 0, 0, 0, 0)), (53, 3, .goto (-26), (27, 0, 0, 0, 0, 0)), (56, 1, .aload_n 0, (0, 0, 0, 0, 0, 0)), (57, 1, .iload_n 1, (0, 0, 0, 0, 0, 0)), (58, 3, .invokevirtual 92, (111, 0, 1, 0, 2, 5)),
  (61, 1, .aload_n 0, (0, 0, 0, 0, 0, 0)), (62, 3, .getfield 30, (5, 3, 2, 0, 0, 0)), (65, 3, .invokevirtual 246, (18, 0, 0, 1, 5, 0)), (68, 1, .ireturn, (0, 0, 0, 0, 0, 0))]
def z_X5_cut : List zI := [
  (0, 1, .aload_n 0, (0, 0, 0, 0, 0, 0)), (1, 3, .getfield 21, (5, 2, 2, 0, 0, 0)), (4, 1, .iload_n 1, (0, 0, 0, 0, 0, 0)), (5, 3, .invokevirtual 139, (33, 0, 1, 1, 2, 1)), (8, 3, .ifCond .eq 10, (18, 0, 0, 0, 0, 0)), (11, 1, .iload_n 2, (0, 0, 0, 0, 0, 0)),
  (12, 3, .invokestatic 193, (108, 2, 1, 1, 1, 0)), (15, 3, .ifCond .ne 5, (20, 0, 0, 0, 0, 0)), (18, 1, .iconst (-1), (0, 0, 0, 0, 0, 0)), (19, 1, .ireturn, (0, 0, 0, 0, 0, 0)), (20, 2, .bipush (-9), (0, 0, 0, 0, 0, 0)), (22, 1, .istore_n 3, (0, 0, 0, 0, 0, 0)),
  (23, 3, .ldc_w 257, (0, 0, 0, 0, 0, 1000000)), (26, 2, .istore 4, (0, 0, 0, 0, 0, 0)), (28, 1, .aload_n 0, (0, 0, 0, 0, 0, 0)), (29, 3, .getfield 34, (5, 4, 2, 0, 0, 0)), (32, 1, .aload_n 0, (0, 0, 0, 0, 0, 0)), (33, 3, .getfield 30, (5, 3, 2, 0, 0, 0)),
  (36, 3, .invokevirtual 231, (3, 0, 1, 0, 2, 0)), (39, 1, .iconst 1, (0, 0, 0, 0, 0, 0)), (40, 2, .istore 5, (0, 0, 0, 0, 0, 0)), (42, 2, .iload 5, (0, 0, 0, 0, 0, 0)), (44, 2, .bipush 9, (0, 0, 0, 0, 0, 0)), (46, 3, .if_icmp .gt 44, (90, 0, 0, 0, 0, 0)),
  (49, 1, .aload_n 0, (0, 0, 0, 0, 0, 0)), (50, 3, .getfield 34, (5, 4, 2, 0, 0, 0)), (53, 3, .getfield 190, (0, 3, 2, 1, 0, 0)), (56, 1, .iload_n 1, (0, 0, 0, 0, 0, 0)), (57, 2, .iload 5, (0, 0, 0, 0, 0, 0)), (59, 1, .iastore, (0, 0, 0, 0, 0, 0)),
  (60, 1, .aload_n 0, (0, 0, 0, 0, 0, 0)), (61, 3, .getfield 34, (5, 4, 2, 0, 0, 0)), (64, 1, .iload_n 2, (0, 0, 0, 0, 0, 0)), (65, 3, .invokevirtual 217, (25, 0, 1, 1, 4, 0)), (68, 2, .istore 6, (0, 0, 0, 0, 0, 0)), (70, 2, .iload 6, (0, 0, 0, 0, 0, 0)),
  (72, 2, .iload 4, (0, 0, 0, 0, 0, 0)), (74, 3, .if_icmp .ge 10, (84, 0, 0, 0, 0, 0)), (77, 2, .iload 5, (0, 0, 0, 0, 0, 0)), (79, 1, .istore_n 3, (0, 0, 0, 0, 0, 0)), (80, 2, .iload 6, (0, 0, 0, 0, 0, 0)), (82, 2, .istore 4, (0, 0, 0, 0, 0, 0)),
  (84, 3, .iinc 5 1, (0, 0, 0, 0, 0, 0)), (87, 3, .goto (-45), (42, 64, 0, 0, 0, 0)), (90, 1, .aload_n 0, (0, 0, 0, 0, 0, 0)), (91, 2, .iload 4, (0, 0, 0, 0, 0, 0)), (93, 3, .invokevirtual 92, (111, 0, 1, 0, 2, 5)), (96, 1, .iload_n 3, (0, 0, 0, 0, 0, 0)),
  (97, 1, .ireturn, (0, 0, 0, 0, 0, 0))]
def z_X5_up : List zI := [
  (0, 1, .aload_n 0, (0, 0, 0, 0, 0, 0)), (1, 1, .iload_n 2, (0, 0, 0, 0, 0, 0)), (2, 3, .invokevirtual 69, (106, 0, 1, 3, 2, 5)), (5, 1, .astore_n 3, (0, 0, 0, 0, 0, 0)), (6, 1, .aload_n 3, (0, 0, 0, 0, 0, 0)), (7, 3, .ifnull 10, (17, 0, 0, 0, 0, 0)),
  (10, 1, .iload_n 1, (0, 0, 0, 0, 0, 0)), (11, 3, .invokestatic 193, (108, 2, 1, 1, 1, 0)), (14, 3, .ifCond .ne 5, (19, 0, 0, 0, 0, 0)), (17, 1, .iconst (-1), (0, 0, 0, 0, 0, 0)), (18, 1, .ireturn, (0, 0, 0, 0, 0, 0)), (19, 1, .aload_n 0, (0, 0, 0, 0, 0, 0)),
  (20, 3, .getfield 21, (5, 2, 2, 0, 0, 0)), (23, 3, .getfield 136, (1, 1, 0, 1, 0, 0)), (26, 3, .ifCond .ne 6, (32, 0, 0, 0, 0, 0)), (29, 2, .bipush (-4), (0, 0, 0, 0, 0, 0)), (31, 1, .ireturn, (0, 0, 0, 0, 0, 0)), (32, 1, .aload_n 0, (0, 0, 0, 0, 0, 0)),
  (33, 3, .getfield 34, (5, 4, 2, 0, 0, 0)), (36, 1, .aload_n 0, (0, 0, 0, 0, 0, 0)), (37, 3, .getfield 30, (5, 3, 2, 0, 0, 0)), (40, 3, .invokevirtual 231, (3, 0, 1, 0, 2, 0)), (43, 1, .aload_n 0, (0, 0, 0, 0, 0, 0)), (44, 3, .getfield 34, (5, 4, 2, 0, 0, 0)),
  (47, 1, .iload_n 1, (0, 0, 0, 0, 0, 0)), (48, 3, .invokevirtual 214, (20, 0, 1, 1, 4, 0)), (51, 2, .istore 4, (0, 0, 0, 0, 0, 0)), (53, 1, .aload_n 3, (0, 0, 0, 0, 0, 0)), (54, 2, .iload 4, (0, 0, 0, 0, 0, 0)), (56, 1, .iconst 0, (0, 0, 0, 0, 0, 0)),
  (57, 3, .invokevirtual 258, (62, 0, 2, 0, 3, 4)), (60, 1, .iconst 0, (0, 0, 0, 0, 0, 0)), (61, 2, .istore 5, (0, 0, 0, 0, 0, 0)), (63, 1, .iconst 0, (0, 0, 0, 0, 0, 0)), (64, 2, .istore 6, (0, 0, 0, 0, 0, 0)), (66, 2, .iload 6, (0, 0, 0, 0, 0, 0)),
  (68, 2, .iload 4, (0, 0, 0, 0, 0, 0)), (70, 3, .if_icmp .ge 68, (138, 0, 0, 0, 0, 0)), (73, 1, .aload_n 0, (0, 0, 0, 0, 0, 0)), (74, 3, .getfield 34, (5, 4, 2, 0, 0, 0)), (77, 1, .iload_n 1, (0, 0, 0, 0, 0, 0)), (78, 3, .invokevirtual 261, (29, 0, 1, 1, 3, 0)),
  (81, 2, .istore 7, (0, 0, 0, 0, 0, 0)), (83, 1, .aload_n 0, (0, 0, 0, 0, 0, 0)), (84, 3, .getfield 21, (5, 2, 2, 0, 0, 0)), (87, 2, .iload 7, (0, 0, 0, 0, 0, 0)), (89, 3, .invokevirtual 139, (33, 0, 1, 1, 2, 1)), (92, 3, .ifCond .ne 6, (98, 0, 0, 0, 0, 0)),
  (95, 3, .goto 43, (138, 0, 0, 0, 0, 0)), (98, 2, .iload 5, (0, 0, 0, 0, 0, 0)), (100, 1, .aload_n 0, (0, 0, 0, 0, 0, 0)), (101, 3, .getfield 34, (5, 4, 2, 0, 0, 0)), (104, 2, .iload 7, (0, 0, 0, 0, 0, 0)), (106, 1, .iload_n 1, (0, 0, 0, 0, 0, 0)),
  (107, 3, .invokevirtual 264, (28, 0, 2, 1, 6, 0)), (110, 1, .iadd, (0, 0, 0, 0, 0, 0)), (111, 2, .istore 5, (0, 0, 0, 0, 0, 0)), (113, 1, .aload_n 3, (0, 0, 0, 0, 0, 0)), (114, 2, .iload 6, (0, 0, 0, 0, 0, 0)), (116, 2, .iload 7, (0, 0, 0, 0, 0, 0)),
  (118, 3, .invokevirtual 95, (61, 0, 2, 0, 3, 4)), (121, 1, .aload_n 0, (0, 0, 0, 0, 0, 0)), (122, 3, .getfield 34, (5, 4, 2, 0, 0, 0)), (125, 2, .iload 7, (0, 0, 0, 0, 0, 0)), (127, 2, .bipush (-9), (0, 0, 0, 0, 0, 0)), (129, 3, .invokevirtual 175, (11, 0, 2, 0, 3, 0)),
  (132, 3, .iinc 6 1, (0, 0, 0, 0, 0, 0)), (135, 3, .goto (-69), (66, 128, 0, 0, 0, 0)), (138, 2, .iload 5, (0, 0, 0, 0, 0, 0)), (140, 1, .ireturn, (0, 0, 0, 0, 0, 0))]
def z_X5_fits : List zI := [
  (0, 1, .aload_n 0, (0, 0, 0, 0, 0, 0)), (1, 1, .iload_n 1, (0, 0, 0, 0, 0, 0)), (2, 3, .invokevirtual 69, (106, 0, 1, 3, 2, 5)), (5, 1, .astore_n 2, (0, 0, 0, 0, 0, 0)), (6, 1, .aload_n 2, (0, 0, 0, 0, 0, 0)), (7, 3, .ifnonnull 5, (12, 0, 0, 0, 0, 0)),
  (10, 1, .iconst (-1), (0, 0, 0, 0, 0, 0)), (11, 1, .ireturn, (0, 0, 0, 0, 0, 0)), (12, 1, .aload_n 0, (0, 0, 0, 0, 0, 0)), (13, 3, .getfield 21, (5, 2, 2, 0, 0, 0)), (16, 3, .getfield 136, (1, 1, 0, 1, 0, 0)), (19, 3, .ifCond .ne 6, (25, 0, 0, 0, 0, 0)),
  (22, 2, .bipush (-4), (0, 0, 0, 0, 0, 0)), (24, 1, .ireturn, (0, 0, 0, 0, 0, 0)), (25, 1, .aload_n 2, (0, 0, 0, 0, 0, 0)), (26, 3, .invokevirtual 77, (58, 0, 0, 1, 1, 4)), (29, 3, .ifCond .eq 9, (38, 0, 0, 0, 0, 0)), (32, 1, .aload_n 0, (0, 0, 0, 0, 0, 0)),
  (33, 1, .iconst 1, (0, 0, 0, 0, 0, 0)), (34, 3, .invokevirtual 81, (110, 0, 1, 1, 2, 5)), (37, 1, .ireturn, (0, 0, 0, 0, 0, 0)), (38, 1, .aload_n 2, (0, 0, 0, 0, 0, 0)), (39, 3, .getfield 110, (4, 1, 0, 1, 0, 0)), (42, 1, .iconst 2, (0, 0, 0, 0, 0, 0)),
  (43, 1, .irem, (0, 0, 0, 0, 0, 0)), (44, 3, .ifCond .eq 9, (53, 0, 0, 0, 0, 0)), (47, 1, .aload_n 0, (0, 0, 0, 0, 0, 0)), (48, 1, .iconst 5, (0, 0, 0, 0, 0, 0)), (49, 3, .invokevirtual 81, (110, 0, 1, 1, 2, 5)), (52, 1, .ireturn, (0, 0, 0, 0, 0, 0)),
  (53, 1, .iconst 0, (0, 0, 0, 0, 0, 0)), (54, 1, .istore_n 3, (0, 0, 0, 0, 0, 0)), (55, 1, .iload_n 3, (0, 0, 0, 0, 0, 0)), (56, 1, .aload_n 2, (0, 0, 0, 0, 0, 0)), (57, 3, .getfield 110, (4, 1, 0, 1, 0, 0)), (60, 3, .if_icmp .ge 26, (86, 0, 0, 0, 0, 0)),
  (63, 1, .aload_n 2, (0, 0, 0, 0, 0, 0)), (64, 1, .iload_n 3, (0, 0, 0, 0, 0, 0)), (65, 3, .invokevirtual 89, (60, 0, 1, 1, 2, 4)), (68, 3, .invokestatic 193, (108, 2, 1, 1, 1, 0)), (71, 3, .ifCond .ne 9, (80, 0, 0, 0, 0, 0)), (74, 1, .aload_n 0, (0, 0, 0, 0, 0, 0)),
  (75, 1, .iconst 3, (0, 0, 0, 0, 0, 0)), (76, 3, .invokevirtual 81, (110, 0, 1, 1, 2, 5)), (79, 1, .ireturn, (0, 0, 0, 0, 0, 0)), (80, 3, .iinc 3 2, (0, 0, 0, 0, 0, 0)), (83, 3, .goto (-28), (55, 0, 0, 0, 0, 0)), (86, 1, .aload_n 0, (0, 0, 0, 0, 0, 0)),
  (87, 1, .aload_n 2, (0, 0, 0, 0, 0, 0)), (88, 3, .invokevirtual 267, (122, 0, 1, 0, 6, 5)), (91, 1, .iconst 1, (0, 0, 0, 0, 0, 0)), (92, 1, .ireturn, (0, 0, 0, 0, 0, 0))]
def z_X5_mid : List zI := [
  (0, 1, .iload_n 1, (0, 0, 0, 0, 0, 0)), (1, 3, .invokestatic 193, (108, 2, 1, 1, 1, 0)), (4, 3, .ifCond .ne 5, (9, 0, 0, 0, 0, 0)), (7, 1, .iconst (-1), (0, 0, 0, 0, 0, 0)), (8, 1, .ireturn, (0, 0, 0, 0, 0, 0)), (9, 1, .aload_n 0, (0, 0, 0, 0, 0, 0)),
  (10, 3, .getfield 21, (5, 2, 2, 0, 0, 0)), (13, 3, .getfield 136, (1, 1, 0, 1, 0, 0)), (16, 3, .ifCond .ne 6, (22, 0, 0, 0, 0, 0)), (19, 2, .bipush (-4), (0, 0, 0, 0, 0, 0)), (21, 1, .ireturn, (0, 0, 0, 0, 0, 0)), (22, 1, .lconst 0, (0, 0, 0, 0, 0, 0)),
  (23, 1, .lstore_n 2, (0, 0, 0, 0, 0, 0)), (24, 1, .aload_n 0, (0, 0, 0, 0, 0, 0)), (25, 3, .invokevirtual 240, (117, 0, 0, 0, 1, 5)), (28, 1, .aload_n 0, (0, 0, 0, 0, 0, 0)), (29, 3, .getfield 21, (5, 2, 2, 0, 0, 0)), (32, 3, .invokevirtual 243, (37, 0, 0, 1, 3, 1)),
  (35, 2, .istore 4, (0, 0, 0, 0, 0, 0)), (37, 2, .iload 4, (0, 0, 0, 0, 0, 0)), (39, 3, .ifCond .le 28, (67, 0, 0, 0, 0, 0)), (42, 1, .lload_n 2, (0, 0, 0, 0, 0, 0)), (43, 1, .aload_n 0, (0, 0, 0, 0, 0, 0)), (44, 3, .getfield 34, (5, 4, 2, 0, 0, 0)),
  (47, 1, .iload_n 1, (0, 0, 0, 0, 0, 0)), (48, 3, .invokevirtual 217, (25, 0, 1, 1, 4, 0)), (51, 1, .i2l, (0, 0, 0, 0, 0, 0)), (52, 1, .ladd, (0, 0, 0, 0, 0, 0)), (53, 1, .lstore_n 2, (0, 0, 0, 0, 0, 0)), (54, 1, .aload_n 0, (0, 0, 0, 0, 0, 0)),
  (55, 3, .getfield 34, (5, 4, 2, 0, 0, 0)), (58, 3, .invokevirtual 254, (16, 0, 0, 0, 3, 0)), (61, 3, .iinc 4 (-1), (0, 0, 0, 0, 0, 0)), (64, 3, .goto (-27), (37, 0, 0, 0, 0, 0)), (67, 1, .aload_n 0, (0, 0, 0, 0, 0, 0)), (68, 1, .lload_n 2, (0, 0, 0, 0, 0, 0)),
  (69, 1, .aload_n 0, (0, 0, 0, 0, 0, 0)), (70, 3, .getfield 21, (5, 2, 2, 0, 0, 0)), (73, 3, .invokevirtual 243, (37, 0, 0, 1, 3, 1)), (76, 1, .i2l, (0, 0, 0, 0, 0, 0)), (77, 3, .invokevirtual 271, (112, 0, 2, 0, 7, 5)), (80, 1, .iconst 1, (0, 0, 0, 0, 0, 0)),
  (81, 1, .ireturn, (0, 0, 0, 0, 0, 0))]
def z_X5_lots : List zI := [
  (0, 1, .iload_n 1, (0, 0, 0, 0, 0, 0)), (1, 1, .iconst 1, (0, 0, 0, 0, 0, 0)), (2, 3, .if_icmp .lt 23, (25, 0, 0, 0, 0, 0)), (5, 1, .iload_n 1, (0, 0, 0, 0, 0, 0)), (6, 2, .bipush 20, (0, 0, 0, 0, 0, 0)), (8, 3, .if_icmp .gt 17, (25, 0, 0, 0, 0, 0)),
  (11, 1, .iload_n 2, (0, 0, 0, 0, 0, 0)), (12, 1, .iconst 1, (0, 0, 0, 0, 0, 0)), (13, 3, .if_icmp .lt 12, (25, 0, 0, 0, 0, 0)), (16, 1, .iload_n 2, (0, 0, 0, 0, 0, 0)), (17, 1, .i2l, (0, 0, 0, 0, 0, 0)), (18, 3, .ldc2_w 275, (0, 0, 0, 0, 0, 2147483647)),
  (21, 1, .lcmp, (0, 0, 0, 0, 0, 0)), (22, 3, .ifCond .lt 5, (27, 0, 0, 0, 0, 0)), (25, 1, .iconst (-1), (0, 0, 0, 0, 0, 0)), (26, 1, .ireturn, (0, 0, 0, 0, 0, 0)), (27, 1, .aload_n 0, (0, 0, 0, 0, 0, 0)), (28, 3, .getfield 21, (5, 2, 2, 0, 0, 0)),
  (31, 3, .getfield 136, (1, 1, 0, 1, 0, 0)), (34, 3, .ifCond .ne 6, (40, 0, 0, 0, 0, 0)), (37, 2, .bipush (-4), (0, 0, 0, 0, 0, 0)), (39, 1, .ireturn, (0, 0, 0, 0, 0, 0)), (40, 1, .aload_n 0, (0, 0, 0, 0, 0, 0)), (41, 3, .getfield 42, (5, 5, 2, 0, 0, 0)),
  (44, 1, .iload_n 1, (0, 0, 0, 0, 0, 0)), (45, 3, .invokevirtual 172, (44, 0, 1, 1, 2, 2)), (48, 3, .ifCond .ne 6, (54, 0, 0, 0, 0, 0)), (51, 2, .bipush (-2), (0, 0, 0, 0, 0, 0)), (53, 1, .ireturn, (0, 0, 0, 0, 0, 0)), (54, 1, .iload_n 2, (0, 0, 0, 0, 0, 0)),
  (55, 1, .i2l, (0, 0, 0, 0, 0, 0)), (56, 1, .lstore_n 3, (0, 0, 0, 0, 0, 0)), (57, 1, .iconst 0, (0, 0, 0, 0, 0, 0)), (58, 2, .istore 5, (0, 0, 0, 0, 0, 0)), (60, 1, .iconst 0, (0, 0, 0, 0, 0, 0)), (61, 2, .istore 6, (0, 0, 0, 0, 0, 0)),
  (63, 2, .iload 6, (0, 0, 0, 0, 0, 0)), (65, 1, .iload_n 1, (0, 0, 0, 0, 0, 0)), (66, 3, .if_icmp .ge 38, (104, 0, 0, 0, 0, 0)), (69, 1, .lload_n 3, (0, 0, 0, 0, 0, 0)), (70, 3, .ldc2_w 277, (0, 0, 0, 0, 0, 48271)), (73, 1, .lmul, (0, 0, 0, 0, 0, 0)),
  (74, 3, .ldc2_w 275, (0, 0, 0, 0, 0, 2147483647)), (77, 1, .lrem, (0, 0, 0, 0, 0, 0)), (78, 1, .lstore_n 3, (0, 0, 0, 0, 0, 0)), (79, 2, .iload 5, (0, 0, 0, 0, 0, 0)), (81, 1, .aload_n 0, (0, 0, 0, 0, 0, 0)), (82, 1, .lload_n 3, (0, 0, 0, 0, 0, 0)),
  (83, 3, .ldc2_w 279, (0, 0, 0, 0, 0, 16)), (86, 1, .ldiv, (0, 0, 0, 0, 0, 0)), (87, 3, .ldc2_w 281, (0, 0, 0, 0, 0, 3)), (90, 1, .lrem, (0, 0, 0, 0, 0, 0)), (91, 1, .l2i, (0, 0, 0, 0, 0, 0)), (92, 3, .invokevirtual 196, (115, 0, 1, 1, 3, 5)),
  (95, 1, .iadd, (0, 0, 0, 0, 0, 0)), (96, 2, .istore 5, (0, 0, 0, 0, 0, 0)), (98, 3, .iinc 6 1, (0, 0, 0, 0, 0, 0)), (101, 3, .goto (-38), (63, 0, 0, 0, 0, 0)), (104, 2, .iload 5, (0, 0, 0, 0, 0, 0)), (106, 1, .ireturn, (0, 0, 0, 0, 0, 0))]
def z_X5_asked : List zI := [
  (0, 1, .aload_n 0, (0, 0, 0, 0, 0, 0)), (1, 3, .getfield 50, (5, 7, 0, 0, 0, 0)), (4, 1, .ireturn, (0, 0, 0, 0, 0, 0))]
def z_X5_upper : List zI := [
  (0, 1, .aload_n 0, (0, 0, 0, 0, 0, 0)), (1, 3, .getfield 54, (5, 8, 1, 0, 0, 0)), (4, 1, .lreturn, (0, 0, 0, 0, 0, 0))]
def z_X5_lower : List zI := [
  (0, 1, .aload_n 0, (0, 0, 0, 0, 0, 0)), (1, 3, .getfield 58, (5, 9, 1, 0, 0, 0)), (4, 1, .lreturn, (0, 0, 0, 0, 0, 0))]
def z_X5_count : List zI := [
  (0, 1, .iload_n 1, (0, 0, 0, 0, 0, 0)), (1, 3, .ifCond .lt 9, (10, 0, 0, 0, 0, 0)), (4, 1, .iload_n 1, (0, 0, 0, 0, 0, 0)), (5, 2, .bipush 9, (0, 0, 0, 0, 0, 0)), (7, 3, .if_icmp .lt 7, (14, 0, 0, 0, 0, 0)), (10, 1, .iconst (-1), (0, 0, 0, 0, 0, 0)),
  (11, 3, .goto 8, (19, 0, 0, 0, 0, 0)), (14, 1, .aload_n 0, (0, 0, 0, 0, 0, 0)), (15, 1, .iload_n 1, (0, 0, 0, 0, 0, 0)), (16, 3, .invokevirtual 283, (125, 0, 1, 1, 2, 5)), (19, 1, .ireturn, (0, 0, 0, 0, 0, 0))]
def z_X5_digest : List zI := [
  (0, 3, .ldc2_w 286, (0, 0, 0, 0, 0, 17)), (3, 1, .lstore_n 1, (0, 0, 0, 0, 0, 0)), (4, 1, .iconst 0, (0, 0, 0, 0, 0, 0)), (5, 1, .istore_n 3, (0, 0, 0, 0, 0, 0)), (6, 1, .iload_n 3, (0, 0, 0, 0, 0, 0)), (7, 2, .bipush 9, (0, 0, 0, 0, 0, 0)),
  (9, 3, .if_icmp .ge 22, (31, 0, 0, 0, 0, 0)), (12, 3, .ldc2_w 288, (0, 0, 0, 0, 0, 31)), (15, 1, .lload_n 1, (0, 0, 0, 0, 0, 0)), (16, 1, .lmul, (0, 0, 0, 0, 0, 0)), (17, 1, .aload_n 0, (0, 0, 0, 0, 0, 0)), (18, 1, .iload_n 3, (0, 0, 0, 0, 0, 0)),
  (19, 3, .invokevirtual 283, (125, 0, 1, 1, 2, 5)), (22, 1, .i2l, (0, 0, 0, 0, 0, 0)), (23, 1, .ladd, (0, 0, 0, 0, 0, 0)), (24, 1, .lstore_n 1, (0, 0, 0, 0, 0, 0)), (25, 3, .iinc 3 1, (0, 0, 0, 0, 0, 0)), (28, 3, .goto (-22), (6, 0, 0, 0, 0, 0)),
  (31, 1, .iconst 0, (0, 0, 0, 0, 0, 0)), (32, 1, .istore_n 3, (0, 0, 0, 0, 0, 0)), (33, 1, .iload_n 3, (0, 0, 0, 0, 0, 0)), (34, 1, .aload_n 0, (0, 0, 0, 0, 0, 0)), (35, 3, .getfield 21, (5, 2, 2, 0, 0, 0)), (38, 3, .getfield 290, (1, 0, 0, 1, 0, 0)),
  (41, 3, .if_icmp .ge 42, (83, 0, 0, 0, 0, 0)), (44, 1, .iconst 0, (0, 0, 0, 0, 0, 0)), (45, 2, .istore 4, (0, 0, 0, 0, 0, 0)), (47, 2, .iload 4, (0, 0, 0, 0, 0, 0)), (49, 1, .iconst 2, (0, 0, 0, 0, 0, 0)), (50, 3, .if_icmp .ge 27, (77, 0, 0, 0, 0, 0)),
  (53, 3, .ldc2_w 288, (0, 0, 0, 0, 0, 31)), (56, 1, .lload_n 1, (0, 0, 0, 0, 0, 0)), (57, 1, .lmul, (0, 0, 0, 0, 0, 0)), (58, 1, .aload_n 0, (0, 0, 0, 0, 0, 0)), (59, 3, .getfield 30, (5, 3, 2, 0, 0, 0)), (62, 1, .iload_n 3, (0, 0, 0, 0, 0, 0)),
  (63, 2, .iload 4, (0, 0, 0, 0, 0, 0)), (65, 3, .invokevirtual 149, (5, 0, 2, 1, 3, 0)), (68, 1, .i2l, (0, 0, 0, 0, 0, 0)), (69, 1, .ladd, (0, 0, 0, 0, 0, 0)), (70, 1, .lstore_n 1, (0, 0, 0, 0, 0, 0)), (71, 3, .iinc 4 1, (0, 0, 0, 0, 0, 0)),
  (74, 3, .goto (-27), (47, 0, 0, 0, 0, 0)), (77, 3, .iinc 3 1, (0, 0, 0, 0, 0, 0)), (80, 3, .goto (-47), (33, 16, 0, 0, 0, 0)), (83, 1, .iconst 0, (0, 0, 0, 0, 0, 0)), (84, 1, .istore_n 3, (0, 0, 0, 0, 0, 0)), (85, 1, .iload_n 3, (0, 0, 0, 0, 0, 0)),
  (86, 1, .aload_n 0, (0, 0, 0, 0, 0, 0)), (87, 3, .getfield 21, (5, 2, 2, 0, 0, 0)), (90, 3, .getfield 136, (1, 1, 0, 1, 0, 0)), (93, 3, .if_icmp .ge 43, (136, 0, 0, 0, 0, 0)), (96, 1, .iconst 0, (0, 0, 0, 0, 0, 0)), (97, 2, .istore 4, (0, 0, 0, 0, 0, 0)),
  (99, 2, .iload 4, (0, 0, 0, 0, 0, 0)), (101, 2, .bipush 6, (0, 0, 0, 0, 0, 0)), (103, 3, .if_icmp .ge 27, (130, 0, 0, 0, 0, 0)), (106, 3, .ldc2_w 288, (0, 0, 0, 0, 0, 31)), (109, 1, .lload_n 1, (0, 0, 0, 0, 0, 0)), (110, 1, .lmul, (0, 0, 0, 0, 0, 0)),
  (111, 1, .aload_n 0, (0, 0, 0, 0, 0, 0)), (112, 3, .getfield 30, (5, 3, 2, 0, 0, 0)), (115, 1, .iload_n 3, (0, 0, 0, 0, 0, 0)), (116, 2, .iload 4, (0, 0, 0, 0, 0, 0)), (118, 3, .invokevirtual 142, (4, 0, 2, 1, 3, 0)), (121, 1, .i2l, (0, 0, 0, 0, 0, 0)),
  (122, 1, .ladd, (0, 0, 0, 0, 0, 0)), (123, 1, .lstore_n 1, (0, 0, 0, 0, 0, 0)), (124, 3, .iinc 4 1, (0, 0, 0, 0, 0, 0)), (127, 3, .goto (-28), (99, 0, 0, 0, 0, 0)), (130, 3, .iinc 3 1, (0, 0, 0, 0, 0, 0)), (133, 3, .goto (-48), (85, 16, 0, 0, 0, 0)),
  (136, 1, .iconst 0, (0, 0, 0, 0, 0, 0)), (137, 1, .istore_n 3, (0, 0, 0, 0, 0, 0)), (138, 1, .iload_n 3, (0, 0, 0, 0, 0, 0)), (139, 1, .aload_n 0, (0, 0, 0, 0, 0, 0)), (140, 3, .getfield 46, (5, 6, 2, 0, 0, 0)), (143, 1, .arraylength, (0, 0, 0, 0, 0, 0)),
  (144, 3, .if_icmp .ge 26, (170, 0, 0, 0, 0, 0)), (147, 3, .ldc2_w 288, (0, 0, 0, 0, 0, 31)), (150, 1, .lload_n 1, (0, 0, 0, 0, 0, 0)), (151, 1, .lmul, (0, 0, 0, 0, 0, 0)), (152, 1, .aload_n 0, (0, 0, 0, 0, 0, 0)), (153, 3, .getfield 46, (5, 6, 2, 0, 0, 0)),
  (156, 1, .iload_n 3, (0, 0, 0, 0, 0, 0)), (157, 1, .aaload, (0, 0, 0, 0, 0, 0)), (158, 3, .getfield 199, (2, 1, 0, 1, 0, 0)), (161, 1, .i2l, (0, 0, 0, 0, 0, 0)), (162, 1, .ladd, (0, 0, 0, 0, 0, 0)), (163, 1, .lstore_n 1, (0, 0, 0, 0, 0, 0)),
  (164, 3, .iinc 3 1, (0, 0, 0, 0, 0, 0)), (167, 3, .goto (-29), (138, 0, 0, 0, 0, 0)), (170, 1, .iconst 0, (0, 0, 0, 0, 0, 0)), (171, 1, .istore_n 3, (0, 0, 0, 0, 0, 0)), (172, 1, .iload_n 3, (0, 0, 0, 0, 0, 0)), (173, 1, .aload_n 0, (0, 0, 0, 0, 0, 0)),
  (174, 3, .getfield 11, (5, 0, 2, 0, 0, 0)), (177, 1, .arraylength, (0, 0, 0, 0, 0, 0)), (178, 3, .if_icmp .ge 20, (198, 0, 0, 0, 0, 0)), (181, 1, .aload_n 0, (0, 0, 0, 0, 0, 0)), (182, 3, .getfield 11, (5, 0, 2, 0, 0, 0)), (185, 1, .iload_n 3, (0, 0, 0, 0, 0, 0)),
  (186, 1, .aaload, (0, 0, 0, 0, 0, 0)), (187, 1, .lload_n 1, (0, 0, 0, 0, 0, 0)), (188, 3, .invokevirtual 292, (64, 0, 1, 2, 6, 4)), (191, 1, .lstore_n 1, (0, 0, 0, 0, 0, 0)), (192, 3, .iinc 3 1, (0, 0, 0, 0, 0, 0)), (195, 3, .goto (-23), (172, 0, 0, 0, 0, 0)),
  (198, 1, .iconst 0, (0, 0, 0, 0, 0, 0)), (199, 1, .istore_n 3, (0, 0, 0, 0, 0, 0)), (200, 1, .iload_n 3, (0, 0, 0, 0, 0, 0)), (201, 1, .aload_n 0, (0, 0, 0, 0, 0, 0)), (202, 3, .getfield 15, (5, 1, 2, 0, 0, 0)), (205, 1, .arraylength, (0, 0, 0, 0, 0, 0)),
  (206, 3, .if_icmp .ge 20, (226, 0, 0, 0, 0, 0)), (209, 1, .aload_n 0, (0, 0, 0, 0, 0, 0)), (210, 3, .getfield 15, (5, 1, 2, 0, 0, 0)), (213, 1, .iload_n 3, (0, 0, 0, 0, 0, 0)), (214, 1, .aaload, (0, 0, 0, 0, 0, 0)), (215, 1, .lload_n 1, (0, 0, 0, 0, 0, 0)),
  (216, 3, .invokevirtual 292, (64, 0, 1, 2, 6, 4)), (219, 1, .lstore_n 1, (0, 0, 0, 0, 0, 0)), (220, 3, .iinc 3 1, (0, 0, 0, 0, 0, 0)), (223, 3, .goto (-23), (200, 0, 0, 0, 0, 0)), (226, 1, .lload_n 1, (0, 0, 0, 0, 0, 0)), (227, 1, .lreturn, (0, 0, 0, 0, 0, 0))]
def z_X5_rowAt : List zI := [
  (0, 1, .iload_n 1, (0, 0, 0, 0, 0, 0)), (1, 3, .ifCond .lt 21, (22, 0, 0, 0, 0, 0)), (4, 1, .iload_n 1, (0, 0, 0, 0, 0, 0)), (5, 1, .aload_n 0, (0, 0, 0, 0, 0, 0)), (6, 3, .getfield 11, (5, 0, 2, 0, 0, 0)), (9, 1, .arraylength, (0, 0, 0, 0, 0, 0)),
  (10, 3, .if_icmp .ge 12, (22, 0, 0, 0, 0, 0)), (13, 1, .aload_n 0, (0, 0, 0, 0, 0, 0)), (14, 3, .getfield 11, (5, 0, 2, 0, 0, 0)), (17, 1, .iload_n 1, (0, 0, 0, 0, 0, 0)), (18, 1, .aaload, (0, 0, 0, 0, 0, 0)), (19, 3, .goto 4, (23, 0, 0, 0, 0, 0)),
  (22, 1, .aconst_null, (0, 0, 0, 0, 0, 0)), (23, 1, .areturn, (0, 0, 0, 0, 0, 0))]
def z_X5_textAt : List zI := [
  (0, 1, .iload_n 1, (0, 0, 0, 0, 0, 0)), (1, 3, .ifCond .lt 21, (22, 0, 0, 0, 0, 0)), (4, 1, .iload_n 1, (0, 0, 0, 0, 0, 0)), (5, 1, .aload_n 0, (0, 0, 0, 0, 0, 0)), (6, 3, .getfield 15, (5, 1, 2, 0, 0, 0)), (9, 1, .arraylength, (0, 0, 0, 0, 0, 0)),
  (10, 3, .if_icmp .ge 12, (22, 0, 0, 0, 0, 0)), (13, 1, .aload_n 0, (0, 0, 0, 0, 0, 0)), (14, 3, .getfield 15, (5, 1, 2, 0, 0, 0)), (17, 1, .iload_n 1, (0, 0, 0, 0, 0, 0)), (18, 1, .aaload, (0, 0, 0, 0, 0, 0)), (19, 3, .goto 4, (23, 0, 0, 0, 0, 0)),
  (22, 1, .aconst_null, (0, 0, 0, 0, 0, 0)), (23, 1, .areturn, (0, 0, 0, 0, 0, 0))]
def z_X5_isWhen : List zI := [
  (0, 1, .iload_n 0, (0, 0, 0, 0, 0, 0)), (1, 3, .ifCond .lt 12, (13, 0, 0, 0, 0, 0)), (4, 1, .iload_n 0, (0, 0, 0, 0, 0, 0)), (5, 1, .iconst 2, (0, 0, 0, 0, 0, 0)), (6, 3, .if_icmp .gt 7, (13, 0, 0, 0, 0, 0)), (9, 1, .iconst 1, (0, 0, 0, 0, 0, 0)),
  (10, 3, .goto 4, (14, 0, 0, 0, 0, 0)), (13, 1, .iconst 0, (0, 0, 0, 0, 0, 0)), (14, 1, .ireturn, (1, 0, 0, 0, 0, 0))]
def z_X5_isKeptPlace : List zI := [
  (0, 1, .iload_n 1, (0, 0, 0, 0, 0, 0)), (1, 3, .ifCond .lt 16, (17, 0, 0, 0, 0, 0)), (4, 1, .iload_n 1, (0, 0, 0, 0, 0, 0)), (5, 1, .aload_n 0, (0, 0, 0, 0, 0, 0)), (6, 3, .getfield 46, (5, 6, 2, 0, 0, 0)), (9, 1, .arraylength, (0, 0, 0, 0, 0, 0)),
  (10, 3, .if_icmp .ge 7, (17, 0, 0, 0, 0, 0)), (13, 1, .iconst 1, (0, 0, 0, 0, 0, 0)), (14, 3, .goto 4, (18, 0, 0, 0, 0, 0)), (17, 1, .iconst 0, (0, 0, 0, 0, 0, 0)), (18, 1, .ireturn, (1, 0, 0, 0, 0, 0))]
def z_X5_found : List zI := [
  (0, 1, .iload_n 1, (0, 0, 0, 0, 0, 0)), (1, 1, .iconst 1, (0, 0, 0, 0, 0, 0)), (2, 3, .if_icmp .lt 18, (20, 0, 0, 0, 0, 0)), (5, 1, .iload_n 1, (0, 0, 0, 0, 0, 0)), (6, 1, .iconst 5, (0, 0, 0, 0, 0, 0)), (7, 3, .if_icmp .gt 13, (20, 0, 0, 0, 0, 0)),
  (10, 1, .aload_n 0, (0, 0, 0, 0, 0, 0)), (11, 3, .getfield 64, (5, 11, 2, 0, 0, 0)), (14, 1, .iload_n 1, (0, 0, 0, 0, 0, 0)), (15, 1, .dup2, (0, 0, 0, 0, 0, 0)), (16, 1, .iaload, (0, 0, 0, 0, 0, 0)), (17, 1, .iconst 1, (0, 0, 0, 0, 0, 0)),
  (18, 1, .iadd, (0, 0, 0, 0, 0, 0)), (19, 1, .iastore, (0, 0, 0, 0, 0, 0)), (20, 1, .aload_n 0, (0, 0, 0, 0, 0, 0)), (21, 1, .iload_n 1, (0, 0, 0, 0, 0, 0)), (22, 3, .putfield 61, (5, 10, 0, 0, 0, 0)), (25, 2, .bipush (-3), (0, 0, 0, 0, 0, 0)),
  (27, 1, .ireturn, (0, 0, 0, 0, 0, 0))]
def z_X5_tell : List zI := [
  (0, 1, .aload_n 0, (0, 0, 0, 0, 0, 0)), (1, 1, .iload_n 1, (0, 0, 0, 0, 0, 0)), (2, 3, .putfield 50, (5, 7, 0, 0, 0, 0)), (5, 1, .return_, (0, 0, 0, 0, 0, 0))]
def z_X5_tellMean : List zI := [
  (0, 1, .lconst 1, (0, 0, 0, 0, 0, 0)), (1, 1, .lload_n 1, (0, 0, 0, 0, 0, 0)), (2, 1, .lload_n 3, (0, 0, 0, 0, 0, 0)), (3, 3, .invokestatic 296, (113, 2, 2, 2, 11, 0)), (6, 3, .invokestatic 300, (0, 9, 0, 0, 0, 0)), (9, 2, .lstore 5, (0, 0, 0, 0, 0, 0)),
  (11, 1, .aload_n 0, (0, 0, 0, 0, 0, 0)), (12, 1, .lload_n 1, (0, 0, 0, 0, 0, 0)), (13, 2, .lload 5, (0, 0, 0, 0, 0, 0)), (15, 1, .ldiv, (0, 0, 0, 0, 0, 0)), (16, 3, .putfield 54, (5, 8, 1, 0, 0, 0)), (19, 1, .aload_n 0, (0, 0, 0, 0, 0, 0)),
  (20, 1, .lload_n 3, (0, 0, 0, 0, 0, 0)), (21, 2, .lload 5, (0, 0, 0, 0, 0, 0)), (23, 1, .ldiv, (0, 0, 0, 0, 0, 0)), (24, 3, .putfield 58, (5, 9, 1, 0, 0, 0)), (27, 1, .return_, (0, 0, 0, 0, 0, 0))]
def z_X5_commonDivisor : List zI := [
  (0, 1, .lload_n 0, (0, 0, 0, 0, 0, 0)), (1, 2, .lstore 4, (0, 0, 0, 0, 0, 0)), (3, 1, .lload_n 2, (0, 0, 0, 0, 0, 0)), (4, 2, .lstore 6, (0, 0, 0, 0, 0, 0)), (6, 1, .iconst 0, (0, 0, 0, 0, 0, 0)), (7, 2, .istore 8, (0, 0, 0, 0, 0, 0)),
  (9, 2, .iload 8, (0, 0, 0, 0, 0, 0)), (11, 3, .sipush 130, (0, 0, 0, 0, 0, 0)), (14, 3, .if_icmp .ge 31, (45, 0, 0, 0, 0, 0)), (17, 2, .lload 6, (0, 0, 0, 0, 0, 0)), (19, 1, .lconst 0, (0, 0, 0, 0, 0, 0)), (20, 1, .lcmp, (0, 0, 0, 0, 0, 0)),
  (21, 3, .ifCond .eq 24, (45, 0, 0, 0, 0, 0)), (24, 2, .lload 4, (0, 0, 0, 0, 0, 0)), (26, 2, .lload 6, (0, 0, 0, 0, 0, 0)), (28, 1, .lrem, (0, 0, 0, 0, 0, 0)), (29, 2, .lstore 9, (0, 0, 0, 0, 0, 0)), (31, 2, .lload 6, (0, 0, 0, 0, 0, 0)),
  (33, 2, .lstore 4, (0, 0, 0, 0, 0, 0)), (35, 2, .lload 9, (0, 0, 0, 0, 0, 0)), (37, 2, .lstore 6, (0, 0, 0, 0, 0, 0)), (39, 3, .iinc 8 1, (0, 0, 0, 0, 0, 0)), (42, 3, .goto (-33), (9, 512, 0, 0, 0, 0)), (45, 2, .lload 4, (0, 0, 0, 0, 0, 0)),
  (47, 3, .invokestatic 302, (0, 8, 0, 0, 0, 0)), (50, 1, .lreturn, (0, 0, 0, 0, 0, 0))]
def z_X5_renewed : List zI := [
  (0, 1, .aload_n 1, (0, 0, 0, 0, 0, 0)), (1, 3, .ifnull 8, (9, 0, 0, 0, 0, 0)), (4, 1, .iload_n 2, (0, 0, 0, 0, 0, 0)), (5, 1, .iload_n 3, (0, 0, 0, 0, 0, 0)), (6, 3, .if_icmp .le 5, (11, 0, 0, 0, 0, 0)), (9, 1, .iconst (-1), (0, 0, 0, 0, 0, 0)),
  (10, 1, .ireturn, (0, 0, 0, 0, 0, 0)), (11, 1, .iload_n 2, (0, 0, 0, 0, 0, 0)), (12, 3, .ifCond .ge 9, (21, 0, 0, 0, 0, 0)), (15, 1, .aload_n 0, (0, 0, 0, 0, 0, 0)), (16, 1, .iconst 5, (0, 0, 0, 0, 0, 0)), (17, 3, .invokevirtual 81, (110, 0, 1, 1, 2, 5)),
  (20, 1, .ireturn, (0, 0, 0, 0, 0, 0)), (21, 1, .aload_n 1, (0, 0, 0, 0, 0, 0)), (22, 1, .iload_n 2, (0, 0, 0, 0, 0, 0)), (23, 2, .iload 4, (0, 0, 0, 0, 0, 0)), (25, 3, .invokevirtual 258, (62, 0, 2, 0, 3, 4)), (28, 1, .iload_n 2, (0, 0, 0, 0, 0, 0)),
  (29, 1, .ireturn, (0, 0, 0, 0, 0, 0))]
def z_X5_sleptThrough : List zI := [
  (0, 1, .aload_n 0, (0, 0, 0, 0, 0, 0)), (1, 3, .getfield 30, (5, 3, 2, 0, 0, 0)), (4, 1, .iload_n 1, (0, 0, 0, 0, 0, 0)), (5, 3, .invokevirtual 305, (27, 0, 1, 1, 5, 0)), (8, 1, .istore_n 2, (0, 0, 0, 0, 0, 0)), (9, 1, .aload_n 0, (0, 0, 0, 0, 0, 0)),
  (10, 3, .getfield 42, (5, 5, 2, 0, 0, 0)), (13, 1, .aload_n 0, (0, 0, 0, 0, 0, 0)), (14, 3, .getfield 30, (5, 3, 2, 0, 0, 0)), (17, 3, .invokevirtual 178, (46, 0, 1, 0, 2, 2)), (20, 1, .iload_n 2, (0, 0, 0, 0, 0, 0)), (21, 1, .ireturn, (0, 0, 0, 0, 0, 0))]
def z_X5_wakingsWithout : List zI := [
  (0, 1, .aload_n 0, (0, 0, 0, 0, 0, 0)), (1, 3, .getfield 34, (5, 4, 2, 0, 0, 0)), (4, 1, .aload_n 0, (0, 0, 0, 0, 0, 0)), (5, 3, .getfield 30, (5, 3, 2, 0, 0, 0)), (8, 3, .invokevirtual 231, (3, 0, 1, 0, 2, 0)), (11, 1, .aload_n 0, (0, 0, 0, 0, 0, 0)),
  (12, 3, .getfield 34, (5, 4, 2, 0, 0, 0)), (15, 1, .iload_n 1, (0, 0, 0, 0, 0, 0)), (16, 2, .bipush (-9), (0, 0, 0, 0, 0, 0)), (18, 3, .invokevirtual 175, (11, 0, 2, 0, 3, 0)), (21, 1, .aload_n 0, (0, 0, 0, 0, 0, 0)), (22, 3, .getfield 34, (5, 4, 2, 0, 0, 0)),
  (25, 1, .iload_n 2, (0, 0, 0, 0, 0, 0)), (26, 1, .iload_n 3, (0, 0, 0, 0, 0, 0)), (27, 3, .invokevirtual 166, (23, 0, 2, 1, 5, 0)), (30, 1, .ireturn, (0, 0, 0, 0, 0, 0))]
def z_X5_beginPlans : List zI := [
  (0, 1, .aload_n 0, (0, 0, 0, 0, 0, 0)), (1, 3, .getfield 34, (5, 4, 2, 0, 0, 0)), (4, 1, .aload_n 0, (0, 0, 0, 0, 0, 0)), (5, 3, .getfield 30, (5, 3, 2, 0, 0, 0)), (8, 3, .invokevirtual 231, (3, 0, 1, 0, 2, 0)), (11, 1, .aload_n 0, (0, 0, 0, 0, 0, 0)),
  (12, 3, .getfield 34, (5, 4, 2, 0, 0, 0)), (15, 3, .invokevirtual 308, (15, 0, 0, 0, 2, 0)), (18, 1, .return_, (0, 0, 0, 0, 0, 0))]
def z_X5_leastPlan : List zI := [
  (0, 1, .aload_n 3, (0, 0, 0, 0, 0, 0)), (1, 3, .ifnonnull 5, (6, 0, 0, 0, 0, 0)), (4, 1, .iconst (-1), (0, 0, 0, 0, 0, 0)), (5, 1, .ireturn, (0, 0, 0, 0, 0, 0)), (6, 1, .aload_n 0, (0, 0, 0, 0, 0, 0)), (7, 3, .getfield 21, (5, 2, 2, 0, 0, 0)),
  (10, 3, .getfield 136, (1, 1, 0, 1, 0, 0)), (13, 3, .ifCond .ne 6, (19, 0, 0, 0, 0, 0)), (16, 2, .bipush (-4), (0, 0, 0, 0, 0, 0)), (18, 1, .ireturn, (0, 0, 0, 0, 0, 0)), (19, 1, .aload_n 3, (0, 0, 0, 0, 0, 0)), (20, 1, .aload_n 0, (0, 0, 0, 0, 0, 0)),
  (21, 3, .getfield 21, (5, 2, 2, 0, 0, 0)), (24, 3, .getfield 136, (1, 1, 0, 1, 0, 0)), (27, 1, .iconst 0, (0, 0, 0, 0, 0, 0)), (28, 3, .invokevirtual 258, (62, 0, 2, 0, 3, 4)), (31, 3, .ldc_w 257, (0, 0, 0, 0, 0, 1000000)), (34, 2, .istore 4, (0, 0, 0, 0, 0, 0)),
  (36, 1, .aload_n 0, (0, 0, 0, 0, 0, 0)), (37, 3, .invokevirtual 240, (117, 0, 0, 0, 1, 5)), (40, 1, .aload_n 0, (0, 0, 0, 0, 0, 0)), (41, 3, .getfield 21, (5, 2, 2, 0, 0, 0)), (44, 3, .invokevirtual 243, (37, 0, 0, 1, 3, 1)), (47, 2, .istore 5, (0, 0, 0, 0, 0, 0)),
  (49, 2, .iload 5, (0, 0, 0, 0, 0, 0)), (51, 3, .ifCond .le 72, (123, 0, 0, 0, 0, 0)), (54, 1, .aload_n 0, (0, 0, 0, 0, 0, 0)), (55, 1, .iload_n 1, (0, 0, 0, 0, 0, 0)), (56, 1, .iload_n 2, (0, 0, 0, 0, 0, 0)), (57, 3, .invokevirtual 311, (119, 0, 2, 1, 3, 5)),
  (60, 2, .istore 6, (0, 0, 0, 0, 0, 0)), (62, 2, .iload 6, (0, 0, 0, 0, 0, 0)), (64, 2, .iload 4, (0, 0, 0, 0, 0, 0)), (66, 3, .if_icmp .ge 44, (110, 0, 0, 0, 0, 0)), (69, 2, .iload 6, (0, 0, 0, 0, 0, 0)), (71, 2, .istore 4, (0, 0, 0, 0, 0, 0)),
  (73, 1, .iconst 0, (0, 0, 0, 0, 0, 0)), (74, 2, .istore 7, (0, 0, 0, 0, 0, 0)), (76, 2, .iload 7, (0, 0, 0, 0, 0, 0)), (78, 1, .aload_n 0, (0, 0, 0, 0, 0, 0)), (79, 3, .getfield 21, (5, 2, 2, 0, 0, 0)), (82, 3, .getfield 136, (1, 1, 0, 1, 0, 0)),
  (85, 3, .if_icmp .ge 25, (110, 0, 0, 0, 0, 0)), (88, 1, .aload_n 3, (0, 0, 0, 0, 0, 0)), (89, 2, .iload 7, (0, 0, 0, 0, 0, 0)), (91, 1, .aload_n 0, (0, 0, 0, 0, 0, 0)), (92, 3, .getfield 34, (5, 4, 2, 0, 0, 0)), (95, 3, .getfield 184, (0, 1, 2, 1, 0, 0)),
  (98, 2, .iload 7, (0, 0, 0, 0, 0, 0)), (100, 1, .iaload, (0, 0, 0, 0, 0, 0)), (101, 3, .invokevirtual 95, (61, 0, 2, 0, 3, 4)), (104, 3, .iinc 7 1, (0, 0, 0, 0, 0, 0)), (107, 3, .goto (-31), (76, 0, 0, 0, 0, 0)), (110, 1, .aload_n 0, (0, 0, 0, 0, 0, 0)),
  (111, 3, .getfield 34, (5, 4, 2, 0, 0, 0)), (114, 3, .invokevirtual 254, (16, 0, 0, 0, 3, 0)), (117, 3, .iinc 5 (-1), (0, 0, 0, 0, 0, 0)), (120, 3, .goto (-71), (49, 192, 0, 0, 0, 0)), (123, 2, .iload 4, (0, 0, 0, 0, 0, 0)), (125, 1, .ireturn, (0, 0, 0, 0, 0, 0))]
def z_X5_weighed : List zI := [
  (0, 1, .iload_n 1, (0, 0, 0, 0, 0, 0)), (1, 27, .lookupswitch 45 #[(0, 27), (1, 36)], (0, 0, 0, 0, 0, 0)), (28, 1, .aload_n 0, (0, 0, 0, 0, 0, 0)), (29, 3, .getfield 34, (5, 4, 2, 0, 0, 0)), (32, 1, .iload_n 2, (0, 0, 0, 0, 0, 0)), (33, 3, .invokevirtual 217, (25, 0, 1, 1, 4, 0)),
  (36, 1, .ireturn, (0, 0, 0, 0, 0, 0)), (37, 1, .aload_n 0, (0, 0, 0, 0, 0, 0)), (38, 3, .getfield 34, (5, 4, 2, 0, 0, 0)), (41, 1, .iload_n 2, (0, 0, 0, 0, 0, 0)), (42, 3, .invokevirtual 314, (26, 0, 1, 1, 4, 0)), (45, 1, .ireturn, (0, 0, 0, 0, 0, 0)),
  (46, 1, .aload_n 0, (0, 0, 0, 0, 0, 0)), (47, 3, .getfield 34, (5, 4, 2, 0, 0, 0)), (50, 1, .iconst 1, (0, 0, 0, 0, 0, 0)), (51, 3, .invokevirtual 217, (25, 0, 1, 1, 4, 0)), (54, 1, .aload_n 0, (0, 0, 0, 0, 0, 0)), (55, 3, .getfield 34, (5, 4, 2, 0, 0, 0)),
  (58, 1, .iconst 2, (0, 0, 0, 0, 0, 0)), (59, 3, .invokevirtual 217, (25, 0, 1, 1, 4, 0)), (62, 1, .iadd, (0, 0, 0, 0, 0, 0)), (63, 1, .ireturn, (0, 0, 0, 0, 0, 0))]
def z_X5_firstGladPair : List zI := [
  (0, 1, .iconst 0, (0, 0, 0, 0, 0, 0)), (1, 1, .istore_n 2, (0, 0, 0, 0, 0, 0)), (2, 1, .iload_n 2, (0, 0, 0, 0, 0, 0)), (3, 1, .aload_n 0, (0, 0, 0, 0, 0, 0)), (4, 3, .getfield 21, (5, 2, 2, 0, 0, 0)), (7, 3, .getfield 136, (1, 1, 0, 1, 0, 0)),
  (10, 3, .if_icmp .ge 47, (57, 0, 0, 0, 0, 0)), (13, 1, .iload_n 2, (0, 0, 0, 0, 0, 0)), (14, 1, .iconst 1, (0, 0, 0, 0, 0, 0)), (15, 1, .iadd, (0, 0, 0, 0, 0, 0)), (16, 1, .istore_n 3, (0, 0, 0, 0, 0, 0)), (17, 1, .iload_n 3, (0, 0, 0, 0, 0, 0)),
  (18, 1, .aload_n 0, (0, 0, 0, 0, 0, 0)), (19, 3, .getfield 21, (5, 2, 2, 0, 0, 0)), (22, 3, .getfield 136, (1, 1, 0, 1, 0, 0)), (25, 3, .if_icmp .ge 26, (51, 0, 0, 0, 0, 0)), (28, 1, .aload_n 0, (0, 0, 0, 0, 0, 0)), (29, 1, .iload_n 2, (0, 0, 0, 0, 0, 0)),
  (30, 1, .iload_n 3, (0, 0, 0, 0, 0, 0)), (31, 1, .iload_n 1, (0, 0, 0, 0, 0, 0)), (32, 3, .invokevirtual 317, (121, 0, 3, 1, 4, 5)), (35, 3, .ifCond .eq 10, (45, 0, 0, 0, 0, 0)), (38, 2, .bipush 6, (0, 0, 0, 0, 0, 0)), (40, 1, .iload_n 2, (0, 0, 0, 0, 0, 0)),
  (41, 1, .imul, (0, 0, 0, 0, 0, 0)), (42, 1, .iload_n 3, (0, 0, 0, 0, 0, 0)), (43, 1, .iadd, (0, 0, 0, 0, 0, 0)), (44, 1, .ireturn, (0, 0, 0, 0, 0, 0)), (45, 3, .iinc 3 1, (0, 0, 0, 0, 0, 0)), (48, 3, .goto (-31), (17, 0, 0, 0, 0, 0)),
  (51, 3, .iinc 2 1, (0, 0, 0, 0, 0, 0)), (54, 3, .goto (-52), (2, 8, 0, 0, 0, 0)), (57, 2, .bipush (-9), (0, 0, 0, 0, 0, 0)), (59, 1, .ireturn, (0, 0, 0, 0, 0, 0))]
def z_X5_wouldBothGladlyChange : List zI := [
  (0, 1, .aload_n 0, (0, 0, 0, 0, 0, 0)), (1, 3, .getfield 30, (5, 3, 2, 0, 0, 0)), (4, 1, .iload_n 1, (0, 0, 0, 0, 0, 0)), (5, 1, .iload_n 3, (0, 0, 0, 0, 0, 0)), (6, 3, .invokevirtual 220, (19, 0, 2, 1, 3, 0)), (9, 3, .ifCond .eq 15, (24, 0, 0, 0, 0, 0)),
  (12, 1, .aload_n 0, (0, 0, 0, 0, 0, 0)), (13, 3, .getfield 30, (5, 3, 2, 0, 0, 0)), (16, 1, .iload_n 2, (0, 0, 0, 0, 0, 0)), (17, 1, .iload_n 3, (0, 0, 0, 0, 0, 0)), (18, 3, .invokevirtual 220, (19, 0, 2, 1, 3, 0)), (21, 3, .ifCond .ne 5, (26, 0, 0, 0, 0, 0)),
  (24, 1, .iconst 0, (0, 0, 0, 0, 0, 0)), (25, 1, .ireturn, (1, 0, 0, 0, 0, 0)), (26, 1, .aload_n 0, (0, 0, 0, 0, 0, 0)), (27, 3, .getfield 34, (5, 4, 2, 0, 0, 0)), (30, 1, .aload_n 0, (0, 0, 0, 0, 0, 0)), (31, 3, .getfield 30, (5, 3, 2, 0, 0, 0)),
  (34, 3, .invokevirtual 231, (3, 0, 1, 0, 2, 0)), (37, 1, .aload_n 0, (0, 0, 0, 0, 0, 0)), (38, 3, .getfield 34, (5, 4, 2, 0, 0, 0)), (41, 1, .iload_n 1, (0, 0, 0, 0, 0, 0)), (42, 1, .iload_n 2, (0, 0, 0, 0, 0, 0)), (43, 3, .invokevirtual 187, (12, 0, 2, 0, 5, 0)),
  (46, 1, .aload_n 0, (0, 0, 0, 0, 0, 0)), (47, 3, .getfield 34, (5, 4, 2, 0, 0, 0)), (50, 1, .iload_n 1, (0, 0, 0, 0, 0, 0)), (51, 1, .iload_n 3, (0, 0, 0, 0, 0, 0)), (52, 3, .invokevirtual 166, (23, 0, 2, 1, 5, 0)), (55, 1, .aload_n 0, (0, 0, 0, 0, 0, 0)),
  (56, 3, .getfield 30, (5, 3, 2, 0, 0, 0)), (59, 1, .iload_n 1, (0, 0, 0, 0, 0, 0)), (60, 1, .iload_n 3, (0, 0, 0, 0, 0, 0)), (61, 3, .invokevirtual 166, (23, 0, 2, 1, 5, 0)), (64, 3, .if_icmp .ge 28, (92, 0, 0, 0, 0, 0)), (67, 1, .aload_n 0, (0, 0, 0, 0, 0, 0)),
  (68, 3, .getfield 34, (5, 4, 2, 0, 0, 0)), (71, 1, .iload_n 2, (0, 0, 0, 0, 0, 0)), (72, 1, .iload_n 3, (0, 0, 0, 0, 0, 0)), (73, 3, .invokevirtual 166, (23, 0, 2, 1, 5, 0)), (76, 1, .aload_n 0, (0, 0, 0, 0, 0, 0)), (77, 3, .getfield 30, (5, 3, 2, 0, 0, 0)),
  (80, 1, .iload_n 2, (0, 0, 0, 0, 0, 0)), (81, 1, .iload_n 3, (0, 0, 0, 0, 0, 0)), (82, 3, .invokevirtual 166, (23, 0, 2, 1, 5, 0)), (85, 3, .if_icmp .ge 7, (92, 0, 0, 0, 0, 0)), (88, 1, .iconst 1, (0, 0, 0, 0, 0, 0)), (89, 3, .goto 4, (93, 0, 0, 0, 0, 0)),
  (92, 1, .iconst 0, (0, 0, 0, 0, 0, 0)), (93, 1, .ireturn, (1, 0, 0, 0, 0, 0))]
def z_X5_countFitting : List zI := [
  (0, 1, .iconst 0, (0, 0, 0, 0, 0, 0)), (1, 1, .istore_n 2, (0, 0, 0, 0, 0, 0)), (2, 2, .bipush (-9), (0, 0, 0, 0, 0, 0)), (4, 1, .istore_n 3, (0, 0, 0, 0, 0, 0)), (5, 1, .aload_n 0, (0, 0, 0, 0, 0, 0)), (6, 3, .invokevirtual 240, (117, 0, 0, 0, 1, 5)),
  (9, 1, .aload_n 0, (0, 0, 0, 0, 0, 0)), (10, 3, .getfield 21, (5, 2, 2, 0, 0, 0)), (13, 3, .invokevirtual 243, (37, 0, 0, 1, 3, 1)), (16, 2, .istore 4, (0, 0, 0, 0, 0, 0)), (18, 2, .iload 4, (0, 0, 0, 0, 0, 0)), (20, 3, .ifCond .le 56, (76, 0, 0, 0, 0, 0)),
  (23, 1, .aload_n 0, (0, 0, 0, 0, 0, 0)), (24, 1, .aload_n 1, (0, 0, 0, 0, 0, 0)), (25, 3, .invokevirtual 321, (123, 0, 1, 1, 3, 5)), (28, 3, .ifCond .eq 35, (63, 0, 0, 0, 0, 0)), (31, 1, .aload_n 0, (0, 0, 0, 0, 0, 0)), (32, 3, .getfield 34, (5, 4, 2, 0, 0, 0)),
  (35, 3, .getfield 184, (0, 1, 2, 1, 0, 0)), (38, 1, .iconst 0, (0, 0, 0, 0, 0, 0)), (39, 1, .iaload, (0, 0, 0, 0, 0, 0)), (40, 2, .istore 5, (0, 0, 0, 0, 0, 0)), (42, 1, .iload_n 2, (0, 0, 0, 0, 0, 0)), (43, 3, .ifCond .eq 9, (52, 0, 0, 0, 0, 0)),
  (46, 1, .iload_n 3, (0, 0, 0, 0, 0, 0)), (47, 2, .iload 5, (0, 0, 0, 0, 0, 0)), (49, 3, .if_icmp .ne 8, (57, 0, 0, 0, 0, 0)), (52, 2, .iload 5, (0, 0, 0, 0, 0, 0)), (54, 3, .goto 5, (59, 0, 0, 0, 0, 0)), (57, 2, .bipush (-9), (0, 0, 0, 0, 0, 0)),
  (59, 1, .istore_n 3, (0, 0, 0, 0, 0, 0)), (60, 3, .iinc 2 1, (0, 0, 0, 0, 0, 0)), (63, 1, .aload_n 0, (0, 0, 0, 0, 0, 0)), (64, 3, .getfield 34, (5, 4, 2, 0, 0, 0)), (67, 3, .invokevirtual 254, (16, 0, 0, 0, 3, 0)), (70, 3, .iinc 4 (-1), (0, 0, 0, 0, 0, 0)),
  (73, 3, .goto (-55), (18, 32, 0, 0, 0, 0)), (76, 1, .aload_n 0, (0, 0, 0, 0, 0, 0)), (77, 1, .iload_n 2, (0, 0, 0, 0, 0, 0)), (78, 1, .i2l, (0, 0, 0, 0, 0, 0)), (79, 3, .putfield 54, (5, 8, 1, 0, 0, 0)), (82, 1, .aload_n 0, (0, 0, 0, 0, 0, 0)),
  (83, 1, .lconst 1, (0, 0, 0, 0, 0, 0)), (84, 3, .putfield 58, (5, 9, 1, 0, 0, 0)), (87, 1, .aload_n 0, (0, 0, 0, 0, 0, 0)), (88, 1, .iload_n 3, (0, 0, 0, 0, 0, 0)), (89, 3, .invokevirtual 92, (111, 0, 1, 0, 2, 5)), (92, 1, .return_, (0, 0, 0, 0, 0, 0))]
def z_X5_fitsBook : List zI := [
  (0, 1, .iconst 0, (0, 0, 0, 0, 0, 0)), (1, 1, .istore_n 2, (0, 0, 0, 0, 0, 0)), (2, 1, .iload_n 2, (0, 0, 0, 0, 0, 0)), (3, 1, .iconst 2, (0, 0, 0, 0, 0, 0)), (4, 3, .if_icmp .gt 20, (24, 0, 0, 0, 0, 0)), (7, 1, .aload_n 0, (0, 0, 0, 0, 0, 0)),
  (8, 1, .iload_n 2, (0, 0, 0, 0, 0, 0)), (9, 1, .aload_n 1, (0, 0, 0, 0, 0, 0)), (10, 3, .invokevirtual 324, (124, 0, 2, 1, 5, 5)), (13, 3, .ifCond .ne 5, (18, 0, 0, 0, 0, 0)), (16, 1, .iconst 0, (0, 0, 0, 0, 0, 0)), (17, 1, .ireturn, (1, 0, 0, 0, 0, 0)),
  (18, 3, .iinc 2 1, (0, 0, 0, 0, 0, 0)), (21, 3, .goto (-19), (2, 0, 0, 0, 0, 0)), (24, 1, .iconst 1, (0, 0, 0, 0, 0, 0)), (25, 1, .ireturn, (1, 0, 0, 0, 0, 0))]
def z_X5_fitsBookBy : List zI := [
  (0, 2, .bipush (-9), (0, 0, 0, 0, 0, 0)), (2, 1, .istore_n 3, (0, 0, 0, 0, 0, 0)), (3, 1, .iconst 0, (0, 0, 0, 0, 0, 0)), (4, 2, .istore 4, (0, 0, 0, 0, 0, 0)), (6, 2, .iload 4, (0, 0, 0, 0, 0, 0)), (8, 1, .aload_n 2, (0, 0, 0, 0, 0, 0)),
  (9, 3, .getfield 110, (4, 1, 0, 1, 0, 0)), (12, 3, .if_icmp .ge 51, (63, 0, 0, 0, 0, 0)), (15, 1, .aload_n 2, (0, 0, 0, 0, 0, 0)), (16, 2, .iload 4, (0, 0, 0, 0, 0, 0)), (18, 3, .invokevirtual 89, (60, 0, 1, 1, 2, 4)), (21, 1, .iload_n 1, (0, 0, 0, 0, 0, 0)),
  (22, 3, .if_icmp .eq 6, (28, 0, 0, 0, 0, 0)), (25, 3, .goto 32, (57, 0, 0, 0, 0, 0)), (28, 1, .iload_n 3, (0, 0, 0, 0, 0, 0)), (29, 2, .bipush (-9), (0, 0, 0, 0, 0, 0)), (31, 3, .if_icmp .ne 12, (43, 0, 0, 0, 0, 0)), (34, 1, .aload_n 0, (0, 0, 0, 0, 0, 0)),
  (35, 3, .getfield 34, (5, 4, 2, 0, 0, 0)), (38, 1, .iload_n 1, (0, 0, 0, 0, 0, 0)), (39, 3, .invokevirtual 217, (25, 0, 1, 1, 4, 0)), (42, 1, .istore_n 3, (0, 0, 0, 0, 0, 0)), (43, 1, .iload_n 3, (0, 0, 0, 0, 0, 0)), (44, 1, .aload_n 2, (0, 0, 0, 0, 0, 0)),
  (45, 2, .iload 4, (0, 0, 0, 0, 0, 0)), (47, 1, .iconst 1, (0, 0, 0, 0, 0, 0)), (48, 1, .iadd, (0, 0, 0, 0, 0, 0)), (49, 3, .invokevirtual 89, (60, 0, 1, 1, 2, 4)), (52, 3, .if_icmp .eq 5, (57, 0, 0, 0, 0, 0)), (55, 1, .iconst 0, (0, 0, 0, 0, 0, 0)),
  (56, 1, .ireturn, (1, 0, 0, 0, 0, 0)), (57, 3, .iinc 4 2, (0, 0, 0, 0, 0, 0)), (60, 3, .goto (-54), (6, 0, 0, 0, 0, 0)), (63, 1, .iconst 1, (0, 0, 0, 0, 0, 0)), (64, 1, .ireturn, (1, 0, 0, 0, 0, 0))]
def z_X5_counted : List zI := [
  (0, 1, .iload_n 1, (0, 0, 0, 0, 0, 0)), (1, 47, .tableswitch 116 0 7 #[47, 55, 63, 71, 80, 88, 100, 108], (0, 0, 0, 0, 0, 0)), (48, 1, .aload_n 0, (0, 0, 0, 0, 0, 0)), (49, 3, .getfield 21, (5, 2, 2, 0, 0, 0)), (52, 3, .getfield 136, (1, 1, 0, 1, 0, 0)), (55, 1, .ireturn, (0, 0, 0, 0, 0, 0)),
  (56, 1, .aload_n 0, (0, 0, 0, 0, 0, 0)), (57, 3, .getfield 21, (5, 2, 2, 0, 0, 0)), (60, 3, .getfield 290, (1, 0, 0, 1, 0, 0)), (63, 1, .ireturn, (0, 0, 0, 0, 0, 0)), (64, 1, .aload_n 0, (0, 0, 0, 0, 0, 0)), (65, 3, .getfield 42, (5, 5, 2, 0, 0, 0)),
  (68, 3, .getfield 199, (2, 1, 0, 1, 0, 0)), (71, 1, .ireturn, (0, 0, 0, 0, 0, 0)), (72, 1, .aload_n 0, (0, 0, 0, 0, 0, 0)), (73, 3, .getfield 30, (5, 3, 2, 0, 0, 0)), (76, 1, .iconst 0, (0, 0, 0, 0, 0, 0)), (77, 3, .invokevirtual 214, (20, 0, 1, 1, 4, 0)),
  (80, 1, .ireturn, (0, 0, 0, 0, 0, 0)), (81, 1, .aload_n 0, (0, 0, 0, 0, 0, 0)), (82, 3, .getfield 30, (5, 3, 2, 0, 0, 0)), (85, 3, .invokevirtual 328, (6, 0, 0, 1, 3, 0)), (88, 1, .ireturn, (0, 0, 0, 0, 0, 0)), (89, 1, .aload_n 0, (0, 0, 0, 0, 0, 0)),
  (90, 3, .getfield 21, (5, 2, 2, 0, 0, 0)), (93, 1, .iconst 1, (0, 0, 0, 0, 0, 0)), (94, 3, .invokevirtual 163, (39, 0, 1, 1, 4, 1)), (97, 3, .invokestatic 158, (128, 2, 1, 1, 1, 0)), (100, 1, .ireturn, (0, 0, 0, 0, 0, 0)), (101, 1, .aload_n 0, (0, 0, 0, 0, 0, 0)),
  (102, 3, .getfield 11, (5, 0, 2, 0, 0, 0)), (105, 3, .invokestatic 331, (126, 2, 1, 1, 3, 0)), (108, 1, .ireturn, (0, 0, 0, 0, 0, 0)), (109, 1, .aload_n 0, (0, 0, 0, 0, 0, 0)), (110, 3, .getfield 15, (5, 1, 2, 0, 0, 0)), (113, 3, .invokestatic 331, (126, 2, 1, 1, 3, 0)),
  (116, 1, .ireturn, (0, 0, 0, 0, 0, 0)), (117, 1, .aload_n 0, (0, 0, 0, 0, 0, 0)), (118, 3, .invokevirtual 335, (127, 0, 0, 1, 3, 5)), (121, 1, .ireturn, (0, 0, 0, 0, 0, 0))]
def z_X5_howManyThere : List zI := [
  (0, 1, .iconst 0, (0, 0, 0, 0, 0, 0)), (1, 1, .istore_n 1, (0, 0, 0, 0, 0, 0)), (2, 1, .iconst 0, (0, 0, 0, 0, 0, 0)), (3, 1, .istore_n 2, (0, 0, 0, 0, 0, 0)), (4, 1, .iload_n 2, (0, 0, 0, 0, 0, 0)), (5, 1, .aload_n 0, (0, 0, 0, 0, 0, 0)),
  (6, 1, .arraylength, (0, 0, 0, 0, 0, 0)), (7, 3, .if_icmp .ge 21, (28, 0, 0, 0, 0, 0)), (10, 1, .aload_n 0, (0, 0, 0, 0, 0, 0)), (11, 1, .iload_n 2, (0, 0, 0, 0, 0, 0)), (12, 1, .aaload, (0, 0, 0, 0, 0, 0)), (13, 3, .invokevirtual 77, (58, 0, 0, 1, 1, 4)),
  (16, 3, .ifCond .ne 6, (22, 0, 0, 0, 0, 0)), (19, 3, .iinc 1 1, (0, 0, 0, 0, 0, 0)), (22, 3, .iinc 2 1, (0, 0, 0, 0, 0, 0)), (25, 3, .goto (-21), (4, 0, 0, 0, 0, 0)), (28, 1, .iload_n 1, (0, 0, 0, 0, 0, 0)), (29, 1, .ireturn, (0, 0, 0, 0, 0, 0))]
def z_X5_howManyKept : List zI := [
  (0, 1, .iconst 0, (0, 0, 0, 0, 0, 0)), (1, 1, .istore_n 1, (0, 0, 0, 0, 0, 0)), (2, 1, .iconst 0, (0, 0, 0, 0, 0, 0)), (3, 1, .istore_n 2, (0, 0, 0, 0, 0, 0)), (4, 1, .iload_n 2, (0, 0, 0, 0, 0, 0)), (5, 1, .aload_n 0, (0, 0, 0, 0, 0, 0)),
  (6, 3, .getfield 46, (5, 6, 2, 0, 0, 0)), (9, 1, .arraylength, (0, 0, 0, 0, 0, 0)), (10, 3, .if_icmp .ge 24, (34, 0, 0, 0, 0, 0)), (13, 1, .aload_n 0, (0, 0, 0, 0, 0, 0)), (14, 3, .getfield 46, (5, 6, 2, 0, 0, 0)), (17, 1, .iload_n 2, (0, 0, 0, 0, 0, 0)),
  (18, 1, .aaload, (0, 0, 0, 0, 0, 0)), (19, 3, .invokevirtual 213, (43, 0, 0, 1, 1, 2)), (22, 3, .ifCond .ne 6, (28, 0, 0, 0, 0, 0)), (25, 3, .iinc 1 1, (0, 0, 0, 0, 0, 0)), (28, 3, .iinc 2 1, (0, 0, 0, 0, 0, 0)), (31, 3, .goto (-27), (4, 0, 0, 0, 0, 0)),
  (34, 1, .iload_n 1, (0, 0, 0, 0, 0, 0)), (35, 1, .ireturn, (0, 0, 0, 0, 0, 0))]
def z_J6_bitCount_0f7a4 : List zI := [
  (0, 1, .iload_n 0, (0, 0, 0, 0, 0, 0)), (1, 1, .iload_n 0, (0, 0, 0, 0, 0, 0)), (2, 1, .iconst 1, (0, 0, 0, 0, 0, 0)), (3, 1, .iushr, (0, 0, 0, 0, 0, 0)), (4, 3, .ldc_w 265, (0, 0, 0, 0, 0, 1431655765)), (7, 1, .iand, (0, 0, 0, 0, 0, 0)),
  (8, 1, .isub, (0, 0, 0, 0, 0, 0)), (9, 1, .istore_n 0, (0, 0, 0, 0, 0, 0)), (10, 1, .iload_n 0, (0, 0, 0, 0, 0, 0)), (11, 3, .ldc_w 266, (0, 0, 0, 0, 0, 858993459)), (14, 1, .iand, (0, 0, 0, 0, 0, 0)), (15, 1, .iload_n 0, (0, 0, 0, 0, 0, 0)),
  (16, 1, .iconst 2, (0, 0, 0, 0, 0, 0)), (17, 1, .iushr, (0, 0, 0, 0, 0, 0)), (18, 3, .ldc_w 266, (0, 0, 0, 0, 0, 858993459)), (21, 1, .iand, (0, 0, 0, 0, 0, 0)), (22, 1, .iadd, (0, 0, 0, 0, 0, 0)), (23, 1, .istore_n 0, (0, 0, 0, 0, 0, 0)),
  (24, 1, .iload_n 0, (0, 0, 0, 0, 0, 0)), (25, 1, .iload_n 0, (0, 0, 0, 0, 0, 0)), (26, 1, .iconst 4, (0, 0, 0, 0, 0, 0)), (27, 1, .iushr, (0, 0, 0, 0, 0, 0)), (28, 1, .iadd, (0, 0, 0, 0, 0, 0)), (29, 3, .ldc_w 267, (0, 0, 0, 0, 0, 252645135)),
  (32, 1, .iand, (0, 0, 0, 0, 0, 0)), (33, 1, .istore_n 0, (0, 0, 0, 0, 0, 0)), (34, 1, .iload_n 0, (0, 0, 0, 0, 0, 0)), (35, 1, .iload_n 0, (0, 0, 0, 0, 0, 0)), (36, 2, .bipush 8, (0, 0, 0, 0, 0, 0)), (38, 1, .iushr, (0, 0, 0, 0, 0, 0)),
  (39, 1, .iadd, (0, 0, 0, 0, 0, 0)), (40, 1, .istore_n 0, (0, 0, 0, 0, 0, 0)), (41, 1, .iload_n 0, (0, 0, 0, 0, 0, 0)), (42, 1, .iload_n 0, (0, 0, 0, 0, 0, 0)), (43, 2, .bipush 16, (0, 0, 0, 0, 0, 0)), (45, 1, .iushr, (0, 0, 0, 0, 0, 0)),
  (46, 1, .iadd, (0, 0, 0, 0, 0, 0)), (47, 1, .istore_n 0, (0, 0, 0, 0, 0, 0)), (48, 1, .iload_n 0, (0, 0, 0, 0, 0, 0)), (49, 2, .bipush 63, (0, 0, 0, 0, 0, 0)), (51, 1, .iand, (0, 0, 0, 0, 0, 0)), (52, 1, .ireturn, (0, 0, 0, 0, 0, 0))]
def z_J7_fill_53178 : List zI := [
  (0, 1, .iconst 0, (0, 0, 0, 0, 0, 0)), (1, 1, .istore_n 2, (0, 0, 0, 0, 0, 0)), (2, 1, .aload_n 0, (0, 0, 0, 0, 0, 0)), (3, 1, .arraylength, (0, 0, 0, 0, 0, 0)), (4, 1, .istore_n 3, (0, 0, 0, 0, 0, 0)), (5, 1, .iload_n 2, (0, 0, 0, 0, 0, 0)),
  (6, 1, .iload_n 3, (0, 0, 0, 0, 0, 0)), (7, 3, .if_icmp .ge 13, (20, 0, 0, 0, 0, 0)), (10, 1, .aload_n 0, (0, 0, 0, 0, 0, 0)), (11, 1, .iload_n 2, (0, 0, 0, 0, 0, 0)), (12, 1, .iload_n 1, (0, 0, 0, 0, 0, 0)), (13, 1, .iastore, (0, 0, 0, 0, 0, 0)),
  (14, 3, .iinc 2 1, (0, 0, 0, 0, 0, 0)), (17, 3, .goto (-12), (5, 0, 0, 0, 0, 0)), (20, 1, .return_, (0, 0, 0, 0, 0, 0))]
def z_L_cell : List zI := [
  (0, 1, .iload_n 1, (0, 0, 0, 0, 0, 0)), (1, 1, .aload_n 0, (0, 0, 0, 0, 0, 0)), (2, 1, .arraylength, (0, 0, 0, 0, 0, 0)), (3, 3, .if_icmp .ge 9, (12, 0, 0, 0, 0, 0)), (6, 1, .aload_n 0, (0, 0, 0, 0, 0, 0)), (7, 1, .iload_n 1, (0, 0, 0, 0, 0, 0)),
  (8, 1, .iaload, (0, 0, 0, 0, 0, 0)), (9, 3, .goto 10, (19, 0, 0, 0, 0, 0)), (12, 2, .ldc 7, (0, 0, 0, 0, 0, 40503)), (14, 1, .iload_n 1, (0, 0, 0, 0, 0, 0)), (15, 2, .bipush 7, (0, 0, 0, 0, 0, 0)), (17, 1, .iadd, (0, 0, 0, 0, 0, 0)),
  (18, 1, .imul, (0, 0, 0, 0, 0, 0)), (19, 1, .ireturn, (0, 0, 0, 0, 0, 0))]
def z_L_low : List zI := [
  (0, 1, .iload_n 0, (0, 0, 0, 0, 0, 0)), (1, 2, .ldc 8, (0, 0, 0, 0, 0, 2147483647)), (3, 1, .iand, (0, 0, 0, 0, 0, 0)), (4, 1, .iload_n 1, (0, 0, 0, 0, 0, 0)), (5, 1, .irem, (0, 0, 0, 0, 0, 0)), (6, 1, .ireturn, (0, 0, 0, 0, 0, 0))]
def z_L_letter : List zI := [
  (0, 1, .iload_n 0, (0, 0, 0, 0, 0, 0)), (1, 3, .ifCond .ne 8, (9, 0, 0, 0, 0, 0)), (4, 2, .bipush 109, (0, 0, 0, 0, 0, 0)), (6, 3, .goto 45, (51, 0, 0, 0, 0, 0)), (9, 1, .iload_n 0, (0, 0, 0, 0, 0, 0)), (10, 1, .iconst 1, (0, 0, 0, 0, 0, 0)),
  (11, 3, .if_icmp .ne 8, (19, 0, 0, 0, 0, 0)), (14, 2, .bipush 116, (0, 0, 0, 0, 0, 0)), (16, 3, .goto 35, (51, 0, 0, 0, 0, 0)), (19, 1, .iload_n 0, (0, 0, 0, 0, 0, 0)), (20, 1, .iconst 2, (0, 0, 0, 0, 0, 0)), (21, 3, .if_icmp .ne 8, (29, 0, 0, 0, 0, 0)),
  (24, 2, .bipush 115, (0, 0, 0, 0, 0, 0)), (26, 3, .goto 25, (51, 0, 0, 0, 0, 0)), (29, 1, .iload_n 0, (0, 0, 0, 0, 0, 0)), (30, 1, .iconst 3, (0, 0, 0, 0, 0, 0)), (31, 3, .if_icmp .ne 8, (39, 0, 0, 0, 0, 0)), (34, 2, .bipush 102, (0, 0, 0, 0, 0, 0)),
  (36, 3, .goto 15, (51, 0, 0, 0, 0, 0)), (39, 1, .iload_n 0, (0, 0, 0, 0, 0, 0)), (40, 1, .iconst 4, (0, 0, 0, 0, 0, 0)), (41, 3, .if_icmp .ne 8, (49, 0, 0, 0, 0, 0)), (44, 2, .bipush 110, (0, 0, 0, 0, 0, 0)), (46, 3, .goto 5, (51, 0, 0, 0, 0, 0)),
  (49, 2, .bipush 105, (0, 0, 0, 0, 0, 0)), (51, 1, .ireturn, (0, 0, 0, 0, 0, 0))]
def z_L_placeLetter : List zI := [
  (0, 1, .iload_n 0, (0, 0, 0, 0, 0, 0)), (1, 3, .ifCond .ne 8, (9, 0, 0, 0, 0, 0)), (4, 2, .bipush 46, (0, 0, 0, 0, 0, 0)), (6, 3, .goto 35, (41, 0, 0, 0, 0, 0)), (9, 1, .iload_n 0, (0, 0, 0, 0, 0, 0)), (10, 1, .iconst 1, (0, 0, 0, 0, 0, 0)),
  (11, 3, .if_icmp .ne 8, (19, 0, 0, 0, 0, 0)), (14, 2, .bipush 100, (0, 0, 0, 0, 0, 0)), (16, 3, .goto 25, (41, 0, 0, 0, 0, 0)), (19, 1, .iload_n 0, (0, 0, 0, 0, 0, 0)), (20, 1, .iconst 2, (0, 0, 0, 0, 0, 0)), (21, 3, .if_icmp .ne 8, (29, 0, 0, 0, 0, 0)),
  (24, 2, .bipush 108, (0, 0, 0, 0, 0, 0)), (26, 3, .goto 15, (41, 0, 0, 0, 0, 0)), (29, 1, .iload_n 0, (0, 0, 0, 0, 0, 0)), (30, 1, .iconst 3, (0, 0, 0, 0, 0, 0)), (31, 3, .if_icmp .ne 8, (39, 0, 0, 0, 0, 0)), (34, 2, .bipush 117, (0, 0, 0, 0, 0, 0)),
  (36, 3, .goto 5, (41, 0, 0, 0, 0, 0)), (39, 2, .bipush 103, (0, 0, 0, 0, 0, 0)), (41, 1, .ireturn, (0, 0, 0, 0, 0, 0))]
def z_L_deck_0 : List zI := [
  (0, 1, .aload_n 1, (0, 0, 0, 0, 0, 0)), (1, 1, .iconst 0, (0, 0, 0, 0, 0, 0)), (2, 3, .invokestatic 9, (130, 2, 2, 1, 2, 0)), (5, 2, .istore 4, (0, 0, 0, 0, 0, 0)), (7, 1, .aload_n 2, (0, 0, 0, 0, 0, 0)), (8, 1, .iconst 0, (0, 0, 0, 0, 0, 0)),
  (9, 1, .iconst 2, (0, 0, 0, 0, 0, 0)), (10, 2, .iload 4, (0, 0, 0, 0, 0, 0)), (12, 2, .bipush 6, (0, 0, 0, 0, 0, 0)), (14, 3, .invokestatic 15, (131, 2, 2, 1, 2, 0)), (17, 1, .iadd, (0, 0, 0, 0, 0, 0)), (18, 1, .iastore, (0, 0, 0, 0, 0, 0)),
  (19, 1, .aload_n 2, (0, 0, 0, 0, 0, 0)), (20, 1, .iconst 1, (0, 0, 0, 0, 0, 0)), (21, 1, .iconst 1, (0, 0, 0, 0, 0, 0)), (22, 2, .iload 4, (0, 0, 0, 0, 0, 0)), (24, 1, .iconst 3, (0, 0, 0, 0, 0, 0)), (25, 1, .ishr, (0, 0, 0, 0, 0, 0)),
  (26, 1, .aload_n 2, (0, 0, 0, 0, 0, 0)), (27, 1, .iconst 0, (0, 0, 0, 0, 0, 0)), (28, 1, .iaload, (0, 0, 0, 0, 0, 0)), (29, 2, .bipush 6, (0, 0, 0, 0, 0, 0)), (31, 3, .if_icmp .ge 9, (40, 0, 0, 0, 0, 0)), (34, 1, .aload_n 2, (0, 0, 0, 0, 0, 0)),
  (35, 1, .iconst 0, (0, 0, 0, 0, 0, 0)), (36, 1, .iaload, (0, 0, 0, 0, 0, 0)), (37, 3, .goto 5, (42, 0, 0, 0, 0, 0)), (40, 2, .bipush 6, (0, 0, 0, 0, 0, 0)), (42, 3, .invokestatic 15, (131, 2, 2, 1, 2, 0)), (45, 1, .iadd, (0, 0, 0, 0, 0, 0)),
  (46, 1, .iastore, (0, 0, 0, 0, 0, 0)), (47, 1, .aload_n 0, (0, 0, 0, 0, 0, 0)), (48, 1, .iconst 0, (0, 0, 0, 0, 0, 0)), (49, 2, .bipush 60, (0, 0, 0, 0, 0, 0)), (51, 3, .invokevirtual 19, (70, 0, 2, 1, 3, 5)), (54, 2, .bipush 60, (0, 0, 0, 0, 0, 0)),
  (56, 3, .if_icmp .ne 21, (77, 0, 0, 0, 0, 0)), (59, 1, .aload_n 0, (0, 0, 0, 0, 0, 0)), (60, 1, .iconst 0, (0, 0, 0, 0, 0, 0)), (61, 1, .iconst 0, (0, 0, 0, 0, 0, 0)), (62, 2, .bipush 107, (0, 0, 0, 0, 0, 0)), (64, 3, .invokevirtual 24, (71, 0, 3, 1, 6, 5)),
  (67, 3, .sipush 1032, (0, 0, 0, 0, 0, 0)), (70, 3, .if_icmp .ne 7, (77, 0, 0, 0, 0, 0)), (73, 1, .iconst 1, (0, 0, 0, 0, 0, 0)), (74, 3, .goto 4, (78, 0, 0, 0, 0, 0)), (77, 1, .iconst 0, (0, 0, 0, 0, 0, 0)), (78, 2, .istore 5, (0, 0, 0, 0, 0, 0))]
def z_L_deck_1 : List zI := [
  (80, 1, .iconst 0, (0, 0, 0, 0, 0, 0)), (81, 2, .istore 6, (0, 0, 0, 0, 0, 0)), (83, 2, .iload 6, (0, 0, 0, 0, 0, 0)), (85, 1, .aload_n 2, (0, 0, 0, 0, 0, 0)), (86, 1, .iconst 0, (0, 0, 0, 0, 0, 0)), (87, 1, .iaload, (0, 0, 0, 0, 0, 0)),
  (88, 3, .if_icmp .ge 80, (168, 0, 0, 0, 0, 0)), (91, 1, .aload_n 2, (0, 0, 0, 0, 0, 0)), (92, 1, .iconst 2, (0, 0, 0, 0, 0, 0)), (93, 2, .iload 6, (0, 0, 0, 0, 0, 0)), (95, 1, .iadd, (0, 0, 0, 0, 0, 0)), (96, 2, .iload 4, (0, 0, 0, 0, 0, 0)),
  (98, 2, .bipush 10, (0, 0, 0, 0, 0, 0)), (100, 2, .iload 6, (0, 0, 0, 0, 0, 0)), (102, 1, .iadd, (0, 0, 0, 0, 0, 0)), (103, 1, .ishr, (0, 0, 0, 0, 0, 0)), (104, 1, .iconst 1, (0, 0, 0, 0, 0, 0)), (105, 1, .iand, (0, 0, 0, 0, 0, 0)),
  (106, 3, .ifCond .ne 7, (113, 0, 0, 0, 0, 0)), (109, 1, .iconst 0, (0, 0, 0, 0, 0, 0)), (110, 3, .goto 15, (125, 0, 0, 0, 0, 0)), (113, 2, .iload 4, (0, 0, 0, 0, 0, 0)), (115, 2, .bipush 17, (0, 0, 0, 0, 0, 0)), (117, 2, .iload 6, (0, 0, 0, 0, 0, 0)),
  (119, 1, .iadd, (0, 0, 0, 0, 0, 0)), (120, 1, .ishr, (0, 0, 0, 0, 0, 0)), (121, 1, .iconst 5, (0, 0, 0, 0, 0, 0)), (122, 3, .invokestatic 15, (131, 2, 2, 1, 2, 0)), (125, 1, .iastore, (0, 0, 0, 0, 0, 0)), (126, 2, .iload 5, (0, 0, 0, 0, 0, 0)),
  (128, 3, .ifCond .eq 31, (159, 0, 0, 0, 0, 0)), (131, 1, .aload_n 0, (0, 0, 0, 0, 0, 0)), (132, 1, .iconst 0, (0, 0, 0, 0, 0, 0)), (133, 1, .iconst 1, (0, 0, 0, 0, 0, 0)), (134, 2, .iload 6, (0, 0, 0, 0, 0, 0)), (136, 1, .iadd, (0, 0, 0, 0, 0, 0)),
  (137, 1, .aload_n 2, (0, 0, 0, 0, 0, 0)), (138, 1, .iconst 2, (0, 0, 0, 0, 0, 0)), (139, 2, .iload 6, (0, 0, 0, 0, 0, 0)), (141, 1, .iadd, (0, 0, 0, 0, 0, 0)), (142, 1, .iaload, (0, 0, 0, 0, 0, 0)), (143, 3, .invokestatic 28, (133, 2, 1, 1, 1, 0)),
  (146, 3, .invokevirtual 24, (71, 0, 3, 1, 6, 5)), (149, 3, .sipush 1032, (0, 0, 0, 0, 0, 0)), (152, 3, .if_icmp .ne 7, (159, 0, 0, 0, 0, 0)), (155, 1, .iconst 1, (0, 0, 0, 0, 0, 0)), (156, 3, .goto 4, (160, 0, 0, 0, 0, 0)), (159, 1, .iconst 0, (0, 0, 0, 0, 0, 0))]
def z_L_deck_2 : List zI := [
  (160, 2, .istore 5, (0, 0, 0, 0, 0, 0)), (162, 3, .iinc 6 1, (0, 0, 0, 0, 0, 0)), (165, 3, .goto (-82), (83, 0, 0, 0, 0, 0)), (168, 1, .iconst 0, (0, 0, 0, 0, 0, 0)), (169, 2, .istore 6, (0, 0, 0, 0, 0, 0)), (171, 2, .iload 6, (0, 0, 0, 0, 0, 0)),
  (173, 2, .bipush 6, (0, 0, 0, 0, 0, 0)), (175, 3, .if_icmp .ge 36, (211, 0, 0, 0, 0, 0)), (178, 1, .aload_n 3, (0, 0, 0, 0, 0, 0)), (179, 2, .iload 6, (0, 0, 0, 0, 0, 0)), (181, 2, .iload 6, (0, 0, 0, 0, 0, 0)), (183, 1, .aload_n 2, (0, 0, 0, 0, 0, 0)),
  (184, 1, .iconst 1, (0, 0, 0, 0, 0, 0)), (185, 1, .iaload, (0, 0, 0, 0, 0, 0)), (186, 3, .if_icmp .ge 8, (194, 0, 0, 0, 0, 0)), (189, 2, .iload 6, (0, 0, 0, 0, 0, 0)), (191, 3, .goto 5, (196, 0, 0, 0, 0, 0)), (194, 2, .bipush (-9), (0, 0, 0, 0, 0, 0)),
  (196, 1, .iastore, (0, 0, 0, 0, 0, 0)), (197, 1, .aload_n 3, (0, 0, 0, 0, 0, 0)), (198, 2, .bipush 12, (0, 0, 0, 0, 0, 0)), (200, 2, .iload 6, (0, 0, 0, 0, 0, 0)), (202, 1, .iadd, (0, 0, 0, 0, 0, 0)), (203, 1, .iconst 0, (0, 0, 0, 0, 0, 0)),
  (204, 1, .iastore, (0, 0, 0, 0, 0, 0)), (205, 3, .iinc 6 1, (0, 0, 0, 0, 0, 0)), (208, 3, .goto (-37), (171, 0, 0, 0, 0, 0)), (211, 1, .iconst 0, (0, 0, 0, 0, 0, 0)), (212, 2, .istore 6, (0, 0, 0, 0, 0, 0)), (214, 2, .iload 6, (0, 0, 0, 0, 0, 0)),
  (216, 1, .aload_n 2, (0, 0, 0, 0, 0, 0)), (217, 1, .iconst 1, (0, 0, 0, 0, 0, 0)), (218, 1, .iaload, (0, 0, 0, 0, 0, 0)), (219, 3, .if_icmp .ge 203, (422, 0, 0, 0, 0, 0)), (222, 1, .aload_n 1, (0, 0, 0, 0, 0, 0)), (223, 1, .iconst 1, (0, 0, 0, 0, 0, 0)),
  (224, 2, .iload 6, (0, 0, 0, 0, 0, 0)), (226, 1, .iadd, (0, 0, 0, 0, 0, 0)), (227, 3, .invokestatic 9, (130, 2, 2, 1, 2, 0)), (230, 2, .istore 7, (0, 0, 0, 0, 0, 0)), (232, 1, .aload_n 2, (0, 0, 0, 0, 0, 0)), (233, 2, .bipush 9, (0, 0, 0, 0, 0, 0)),
  (235, 2, .iload 6, (0, 0, 0, 0, 0, 0)), (237, 1, .iadd, (0, 0, 0, 0, 0, 0)), (238, 2, .iload 7, (0, 0, 0, 0, 0, 0)), (240, 2, .bipush 6, (0, 0, 0, 0, 0, 0)), (242, 3, .invokestatic 15, (131, 2, 2, 1, 2, 0)), (245, 1, .iastore, (0, 0, 0, 0, 0, 0))]
def z_L_deck_3 : List zI := [
  (246, 1, .aload_n 3, (0, 0, 0, 0, 0, 0)), (247, 2, .bipush 6, (0, 0, 0, 0, 0, 0)), (249, 2, .iload 6, (0, 0, 0, 0, 0, 0)), (251, 1, .iadd, (0, 0, 0, 0, 0, 0)), (252, 1, .iconst 1, (0, 0, 0, 0, 0, 0)), (253, 2, .iload 7, (0, 0, 0, 0, 0, 0)),
  (255, 1, .iconst 3, (0, 0, 0, 0, 0, 0)), (256, 1, .ishr, (0, 0, 0, 0, 0, 0)), (257, 2, .bipush 9, (0, 0, 0, 0, 0, 0)), (259, 3, .invokestatic 15, (131, 2, 2, 1, 2, 0)), (262, 1, .iadd, (0, 0, 0, 0, 0, 0)), (263, 1, .iastore, (0, 0, 0, 0, 0, 0)),
  (264, 1, .aload_n 2, (0, 0, 0, 0, 0, 0)), (265, 2, .bipush 15, (0, 0, 0, 0, 0, 0)), (267, 2, .iload 6, (0, 0, 0, 0, 0, 0)), (269, 1, .iadd, (0, 0, 0, 0, 0, 0)), (270, 2, .iload 7, (0, 0, 0, 0, 0, 0)), (272, 2, .bipush 7, (0, 0, 0, 0, 0, 0)),
  (274, 1, .ishr, (0, 0, 0, 0, 0, 0)), (275, 1, .iconst 1, (0, 0, 0, 0, 0, 0)), (276, 1, .iand, (0, 0, 0, 0, 0, 0)), (277, 1, .iastore, (0, 0, 0, 0, 0, 0)), (278, 1, .aload_n 2, (0, 0, 0, 0, 0, 0)), (279, 2, .bipush 21, (0, 0, 0, 0, 0, 0)),
  (281, 2, .iload 6, (0, 0, 0, 0, 0, 0)), (283, 1, .iadd, (0, 0, 0, 0, 0, 0)), (284, 2, .iload 7, (0, 0, 0, 0, 0, 0)), (286, 2, .bipush 8, (0, 0, 0, 0, 0, 0)), (288, 1, .ishr, (0, 0, 0, 0, 0, 0)), (289, 1, .iconst 3, (0, 0, 0, 0, 0, 0)),
  (290, 1, .iand, (0, 0, 0, 0, 0, 0)), (291, 1, .iastore, (0, 0, 0, 0, 0, 0)), (292, 2, .iload 5, (0, 0, 0, 0, 0, 0)), (294, 3, .ifCond .eq 119, (413, 0, 0, 0, 0, 0)), (297, 1, .aload_n 0, (0, 0, 0, 0, 0, 0)), (298, 1, .iconst 0, (0, 0, 0, 0, 0, 0)),
  (299, 2, .bipush 9, (0, 0, 0, 0, 0, 0)), (301, 1, .iconst 5, (0, 0, 0, 0, 0, 0)), (302, 2, .iload 6, (0, 0, 0, 0, 0, 0)), (304, 1, .imul, (0, 0, 0, 0, 0, 0)), (305, 1, .iadd, (0, 0, 0, 0, 0, 0)), (306, 1, .aload_n 2, (0, 0, 0, 0, 0, 0)),
  (307, 2, .bipush 9, (0, 0, 0, 0, 0, 0)), (309, 2, .iload 6, (0, 0, 0, 0, 0, 0)), (311, 1, .iadd, (0, 0, 0, 0, 0, 0)), (312, 1, .iaload, (0, 0, 0, 0, 0, 0)), (313, 3, .invokestatic 32, (132, 2, 1, 1, 1, 0)), (316, 3, .invokevirtual 24, (71, 0, 3, 1, 6, 5))]
def z_L_deck_4 : List zI := [
  (319, 3, .sipush 1032, (0, 0, 0, 0, 0, 0)), (322, 3, .if_icmp .ne 91, (413, 0, 0, 0, 0, 0)), (325, 1, .aload_n 0, (0, 0, 0, 0, 0, 0)), (326, 1, .iconst 0, (0, 0, 0, 0, 0, 0)), (327, 2, .bipush 10, (0, 0, 0, 0, 0, 0)), (329, 1, .iconst 5, (0, 0, 0, 0, 0, 0)),
  (330, 2, .iload 6, (0, 0, 0, 0, 0, 0)), (332, 1, .imul, (0, 0, 0, 0, 0, 0)), (333, 1, .iadd, (0, 0, 0, 0, 0, 0)), (334, 2, .bipush 48, (0, 0, 0, 0, 0, 0)), (336, 1, .aload_n 3, (0, 0, 0, 0, 0, 0)), (337, 2, .bipush 6, (0, 0, 0, 0, 0, 0)),
  (339, 2, .iload 6, (0, 0, 0, 0, 0, 0)), (341, 1, .iadd, (0, 0, 0, 0, 0, 0)), (342, 1, .iaload, (0, 0, 0, 0, 0, 0)), (343, 1, .iadd, (0, 0, 0, 0, 0, 0)), (344, 3, .invokevirtual 24, (71, 0, 3, 1, 6, 5)), (347, 3, .sipush 1032, (0, 0, 0, 0, 0, 0)),
  (350, 3, .if_icmp .ne 63, (413, 0, 0, 0, 0, 0)), (353, 1, .aload_n 0, (0, 0, 0, 0, 0, 0)), (354, 1, .iconst 0, (0, 0, 0, 0, 0, 0)), (355, 2, .bipush 11, (0, 0, 0, 0, 0, 0)), (357, 1, .iconst 5, (0, 0, 0, 0, 0, 0)), (358, 2, .iload 6, (0, 0, 0, 0, 0, 0)),
  (360, 1, .imul, (0, 0, 0, 0, 0, 0)), (361, 1, .iadd, (0, 0, 0, 0, 0, 0)), (362, 2, .bipush 48, (0, 0, 0, 0, 0, 0)), (364, 1, .aload_n 2, (0, 0, 0, 0, 0, 0)), (365, 2, .bipush 15, (0, 0, 0, 0, 0, 0)), (367, 2, .iload 6, (0, 0, 0, 0, 0, 0)),
  (369, 1, .iadd, (0, 0, 0, 0, 0, 0)), (370, 1, .iaload, (0, 0, 0, 0, 0, 0)), (371, 1, .iadd, (0, 0, 0, 0, 0, 0)), (372, 3, .invokevirtual 24, (71, 0, 3, 1, 6, 5)), (375, 3, .sipush 1032, (0, 0, 0, 0, 0, 0)), (378, 3, .if_icmp .ne 35, (413, 0, 0, 0, 0, 0)),
  (381, 1, .aload_n 0, (0, 0, 0, 0, 0, 0)), (382, 1, .iconst 0, (0, 0, 0, 0, 0, 0)), (383, 2, .bipush 12, (0, 0, 0, 0, 0, 0)), (385, 1, .iconst 5, (0, 0, 0, 0, 0, 0)), (386, 2, .iload 6, (0, 0, 0, 0, 0, 0)), (388, 1, .imul, (0, 0, 0, 0, 0, 0)),
  (389, 1, .iadd, (0, 0, 0, 0, 0, 0)), (390, 2, .bipush 48, (0, 0, 0, 0, 0, 0)), (392, 1, .aload_n 2, (0, 0, 0, 0, 0, 0)), (393, 2, .bipush 21, (0, 0, 0, 0, 0, 0)), (395, 2, .iload 6, (0, 0, 0, 0, 0, 0)), (397, 1, .iadd, (0, 0, 0, 0, 0, 0))]
def z_L_deck_5 : List zI := [
  (398, 1, .iaload, (0, 0, 0, 0, 0, 0)), (399, 1, .iadd, (0, 0, 0, 0, 0, 0)), (400, 3, .invokevirtual 24, (71, 0, 3, 1, 6, 5)), (403, 3, .sipush 1032, (0, 0, 0, 0, 0, 0)), (406, 3, .if_icmp .ne 7, (413, 0, 0, 0, 0, 0)), (409, 1, .iconst 1, (0, 0, 0, 0, 0, 0)),
  (410, 3, .goto 4, (414, 0, 0, 0, 0, 0)), (413, 1, .iconst 0, (0, 0, 0, 0, 0, 0)), (414, 2, .istore 5, (0, 0, 0, 0, 0, 0)), (416, 3, .iinc 6 1, (0, 0, 0, 0, 0, 0)), (419, 3, .goto (-205), (214, 128, 0, 0, 0, 0)), (422, 2, .iload 5, (0, 0, 0, 0, 0, 0)),
  (424, 3, .ifCond .eq 28, (452, 0, 0, 0, 0, 0)), (427, 1, .aload_n 0, (0, 0, 0, 0, 0, 0)), (428, 1, .iconst 0, (0, 0, 0, 0, 0, 0)), (429, 3, .invokevirtual 35, (72, 0, 1, 1, 3, 5)), (432, 2, .bipush (-9), (0, 0, 0, 0, 0, 0)), (434, 3, .if_icmp .ne 18, (452, 0, 0, 0, 0, 0)),
  (437, 1, .aload_n 0, (0, 0, 0, 0, 0, 0)), (438, 1, .iconst 0, (0, 0, 0, 0, 0, 0)), (439, 3, .invokevirtual 38, (73, 0, 1, 1, 5, 5)), (442, 1, .aload_n 2, (0, 0, 0, 0, 0, 0)), (443, 1, .iconst 1, (0, 0, 0, 0, 0, 0)), (444, 1, .iaload, (0, 0, 0, 0, 0, 0)),
  (445, 3, .if_icmp .ne 7, (452, 0, 0, 0, 0, 0)), (448, 1, .iconst 1, (0, 0, 0, 0, 0, 0)), (449, 3, .goto 4, (453, 0, 0, 0, 0, 0)), (452, 1, .iconst 0, (0, 0, 0, 0, 0, 0)), (453, 1, .ireturn, (1, 0, 0, 0, 0, 0))]
def z_L_deck : List zI := z_L_deck_0 ++ (z_L_deck_1 ++ (z_L_deck_2 ++ (z_L_deck_3 ++ (z_L_deck_4 ++ (z_L_deck_5)))))
def z_L_bits : List zI := [
  (0, 1, .iconst 0, (0, 0, 0, 0, 0, 0)), (1, 1, .istore_n 1, (0, 0, 0, 0, 0, 0)), (2, 1, .iconst 0, (0, 0, 0, 0, 0, 0)), (3, 1, .istore_n 2, (0, 0, 0, 0, 0, 0)), (4, 1, .iload_n 2, (0, 0, 0, 0, 0, 0)), (5, 2, .bipush 7, (0, 0, 0, 0, 0, 0)),
  (7, 3, .if_icmp .ge 17, (24, 0, 0, 0, 0, 0)), (10, 1, .iload_n 1, (0, 0, 0, 0, 0, 0)), (11, 1, .iload_n 0, (0, 0, 0, 0, 0, 0)), (12, 1, .iload_n 2, (0, 0, 0, 0, 0, 0)), (13, 1, .ishr, (0, 0, 0, 0, 0, 0)), (14, 1, .iconst 1, (0, 0, 0, 0, 0, 0)),
  (15, 1, .iand, (0, 0, 0, 0, 0, 0)), (16, 1, .iadd, (0, 0, 0, 0, 0, 0)), (17, 1, .istore_n 1, (0, 0, 0, 0, 0, 0)), (18, 3, .iinc 2 1, (0, 0, 0, 0, 0, 0)), (21, 3, .goto (-17), (4, 0, 0, 0, 0, 0)), (24, 1, .iload_n 1, (0, 0, 0, 0, 0, 0)),
  (25, 1, .ireturn, (0, 0, 0, 0, 0, 0))]
def z_L_whoAt : List zI := [
  (0, 2, .bipush (-9), (0, 0, 0, 0, 0, 0)), (2, 1, .istore_n 2, (0, 0, 0, 0, 0, 0)), (3, 1, .iconst 0, (0, 0, 0, 0, 0, 0)), (4, 1, .istore_n 3, (0, 0, 0, 0, 0, 0)), (5, 1, .iload_n 3, (0, 0, 0, 0, 0, 0)), (6, 2, .bipush 6, (0, 0, 0, 0, 0, 0)),
  (8, 3, .if_icmp .ge 22, (30, 0, 0, 0, 0, 0)), (11, 1, .aload_n 0, (0, 0, 0, 0, 0, 0)), (12, 1, .iload_n 3, (0, 0, 0, 0, 0, 0)), (13, 1, .iaload, (0, 0, 0, 0, 0, 0)), (14, 1, .iload_n 1, (0, 0, 0, 0, 0, 0)), (15, 3, .if_icmp .ne 7, (22, 0, 0, 0, 0, 0)),
  (18, 1, .iload_n 3, (0, 0, 0, 0, 0, 0)), (19, 3, .goto 4, (23, 0, 0, 0, 0, 0)), (22, 1, .iload_n 2, (0, 0, 0, 0, 0, 0)), (23, 1, .istore_n 2, (0, 0, 0, 0, 0, 0)), (24, 3, .iinc 3 1, (0, 0, 0, 0, 0, 0)), (27, 3, .goto (-22), (5, 0, 0, 0, 0, 0)),
  (30, 1, .iload_n 2, (0, 0, 0, 0, 0, 0)), (31, 1, .ireturn, (0, 0, 0, 0, 0, 0))]
def z_L_stir_0 : List zI := [
  (0, 1, .iload_n 3, (0, 0, 0, 0, 0, 0)), (1, 1, .aload_n 1, (0, 0, 0, 0, 0, 0)), (2, 1, .iconst 1, (0, 0, 0, 0, 0, 0)), (3, 1, .iaload, (0, 0, 0, 0, 0, 0)), (4, 3, .invokestatic 15, (131, 2, 2, 1, 2, 0)), (7, 2, .istore 4, (0, 0, 0, 0, 0, 0)),
  (9, 1, .iload_n 3, (0, 0, 0, 0, 0, 0)), (10, 1, .iconst 3, (0, 0, 0, 0, 0, 0)), (11, 1, .ishr, (0, 0, 0, 0, 0, 0)), (12, 1, .aload_n 1, (0, 0, 0, 0, 0, 0)), (13, 1, .iconst 1, (0, 0, 0, 0, 0, 0)), (14, 1, .iaload, (0, 0, 0, 0, 0, 0)),
  (15, 3, .invokestatic 15, (131, 2, 2, 1, 2, 0)), (18, 2, .istore 5, (0, 0, 0, 0, 0, 0)), (20, 1, .iload_n 3, (0, 0, 0, 0, 0, 0)), (21, 2, .bipush 6, (0, 0, 0, 0, 0, 0)), (23, 1, .ishr, (0, 0, 0, 0, 0, 0)), (24, 1, .aload_n 1, (0, 0, 0, 0, 0, 0)),
  (25, 1, .iconst 0, (0, 0, 0, 0, 0, 0)), (26, 1, .iaload, (0, 0, 0, 0, 0, 0)), (27, 3, .invokestatic 15, (131, 2, 2, 1, 2, 0)), (30, 2, .istore 6, (0, 0, 0, 0, 0, 0)), (32, 1, .iconst 1, (0, 0, 0, 0, 0, 0)), (33, 2, .istore 7, (0, 0, 0, 0, 0, 0)),
  (35, 1, .iload_n 3, (0, 0, 0, 0, 0, 0)), (36, 2, .bipush 9, (0, 0, 0, 0, 0, 0)), (38, 1, .ishr, (0, 0, 0, 0, 0, 0)), (39, 1, .iconst 1, (0, 0, 0, 0, 0, 0)), (40, 1, .iand, (0, 0, 0, 0, 0, 0)), (41, 3, .ifCond .ne 67, (108, 0, 0, 0, 0, 0)),
  (44, 1, .aload_n 2, (0, 0, 0, 0, 0, 0)), (45, 2, .iload 6, (0, 0, 0, 0, 0, 0)), (47, 3, .invokestatic 56, (136, 2, 2, 1, 4, 0)), (50, 3, .ifCond .ge 7, (57, 0, 0, 0, 0, 0)), (53, 1, .iconst 1, (0, 0, 0, 0, 0, 0)), (54, 3, .goto 4, (58, 0, 0, 0, 0, 0)),
  (57, 1, .iconst 0, (0, 0, 0, 0, 0, 0)), (58, 2, .istore 8, (0, 0, 0, 0, 0, 0)), (60, 1, .aload_n 2, (0, 0, 0, 0, 0, 0)), (61, 2, .iload 4, (0, 0, 0, 0, 0, 0)), (63, 2, .iload 8, (0, 0, 0, 0, 0, 0)), (65, 3, .ifCond .eq 8, (73, 0, 0, 0, 0, 0)),
  (68, 2, .iload 6, (0, 0, 0, 0, 0, 0)), (70, 3, .goto 7, (77, 0, 0, 0, 0, 0)), (73, 1, .aload_n 2, (0, 0, 0, 0, 0, 0)), (74, 2, .iload 4, (0, 0, 0, 0, 0, 0)), (76, 1, .iaload, (0, 0, 0, 0, 0, 0)), (77, 1, .iastore, (0, 0, 0, 0, 0, 0))]
def z_L_stir_1 : List zI := [
  (78, 1, .aload_n 0, (0, 0, 0, 0, 0, 0)), (79, 2, .iload 4, (0, 0, 0, 0, 0, 0)), (81, 2, .iload 6, (0, 0, 0, 0, 0, 0)), (83, 3, .invokevirtual 59, (76, 0, 2, 1, 3, 5)), (86, 2, .iload 8, (0, 0, 0, 0, 0, 0)), (88, 3, .ifCond .eq 8, (96, 0, 0, 0, 0, 0)),
  (91, 2, .iload 6, (0, 0, 0, 0, 0, 0)), (93, 3, .goto 5, (98, 0, 0, 0, 0, 0)), (96, 2, .bipush (-4), (0, 0, 0, 0, 0, 0)), (98, 3, .if_icmp .ne 7, (105, 0, 0, 0, 0, 0)), (101, 1, .iconst 1, (0, 0, 0, 0, 0, 0)), (102, 3, .goto 4, (106, 0, 0, 0, 0, 0)),
  (105, 1, .iconst 0, (0, 0, 0, 0, 0, 0)), (106, 2, .istore 7, (0, 0, 0, 0, 0, 0)), (108, 1, .iload_n 3, (0, 0, 0, 0, 0, 0)), (109, 2, .bipush 10, (0, 0, 0, 0, 0, 0)), (111, 1, .ishr, (0, 0, 0, 0, 0, 0)), (112, 1, .iconst 1, (0, 0, 0, 0, 0, 0)),
  (113, 1, .iand, (0, 0, 0, 0, 0, 0)), (114, 3, .ifCond .ne 120, (234, 0, 0, 0, 0, 0)), (117, 2, .iload 4, (0, 0, 0, 0, 0, 0)), (119, 2, .iload 5, (0, 0, 0, 0, 0, 0)), (121, 3, .if_icmp .eq 21, (142, 0, 0, 0, 0, 0)), (124, 1, .aload_n 2, (0, 0, 0, 0, 0, 0)),
  (125, 2, .iload 4, (0, 0, 0, 0, 0, 0)), (127, 1, .iaload, (0, 0, 0, 0, 0, 0)), (128, 3, .ifCond .ge 10, (138, 0, 0, 0, 0, 0)), (131, 1, .aload_n 2, (0, 0, 0, 0, 0, 0)), (132, 2, .iload 5, (0, 0, 0, 0, 0, 0)), (134, 1, .iaload, (0, 0, 0, 0, 0, 0)),
  (135, 3, .ifCond .lt 7, (142, 0, 0, 0, 0, 0)), (138, 1, .iconst 1, (0, 0, 0, 0, 0, 0)), (139, 3, .goto 4, (143, 0, 0, 0, 0, 0)), (142, 1, .iconst 0, (0, 0, 0, 0, 0, 0)), (143, 2, .istore 8, (0, 0, 0, 0, 0, 0)), (145, 1, .aload_n 2, (0, 0, 0, 0, 0, 0)),
  (146, 2, .iload 4, (0, 0, 0, 0, 0, 0)), (148, 1, .iaload, (0, 0, 0, 0, 0, 0)), (149, 2, .istore 9, (0, 0, 0, 0, 0, 0)), (151, 1, .aload_n 2, (0, 0, 0, 0, 0, 0)), (152, 2, .iload 4, (0, 0, 0, 0, 0, 0)), (154, 2, .iload 8, (0, 0, 0, 0, 0, 0)),
  (156, 3, .ifCond .eq 10, (166, 0, 0, 0, 0, 0)), (159, 1, .aload_n 2, (0, 0, 0, 0, 0, 0)), (160, 2, .iload 5, (0, 0, 0, 0, 0, 0)), (162, 1, .iaload, (0, 0, 0, 0, 0, 0)), (163, 3, .goto 7, (170, 0, 0, 0, 0, 0)), (166, 1, .aload_n 2, (0, 0, 0, 0, 0, 0))]
def z_L_stir_2 : List zI := [
  (167, 2, .iload 4, (0, 0, 0, 0, 0, 0)), (169, 1, .iaload, (0, 0, 0, 0, 0, 0)), (170, 1, .iastore, (0, 0, 0, 0, 0, 0)), (171, 1, .aload_n 2, (0, 0, 0, 0, 0, 0)), (172, 2, .iload 5, (0, 0, 0, 0, 0, 0)), (174, 2, .iload 8, (0, 0, 0, 0, 0, 0)),
  (176, 3, .ifCond .eq 8, (184, 0, 0, 0, 0, 0)), (179, 2, .iload 9, (0, 0, 0, 0, 0, 0)), (181, 3, .goto 7, (188, 0, 0, 0, 0, 0)), (184, 1, .aload_n 2, (0, 0, 0, 0, 0, 0)), (185, 2, .iload 5, (0, 0, 0, 0, 0, 0)), (187, 1, .iaload, (0, 0, 0, 0, 0, 0)),
  (188, 1, .iastore, (0, 0, 0, 0, 0, 0)), (189, 2, .iload 7, (0, 0, 0, 0, 0, 0)), (191, 3, .ifCond .eq 40, (231, 0, 0, 0, 0, 0)), (194, 1, .aload_n 0, (0, 0, 0, 0, 0, 0)), (195, 2, .iload 4, (0, 0, 0, 0, 0, 0)), (197, 2, .iload 5, (0, 0, 0, 0, 0, 0)),
  (199, 3, .invokevirtual 62, (78, 0, 2, 1, 3, 5)), (202, 2, .iload 4, (0, 0, 0, 0, 0, 0)), (204, 2, .iload 5, (0, 0, 0, 0, 0, 0)), (206, 3, .if_icmp .ne 7, (213, 0, 0, 0, 0, 0)), (209, 1, .iconst (-1), (0, 0, 0, 0, 0, 0)), (210, 3, .goto 14, (224, 0, 0, 0, 0, 0)),
  (213, 2, .iload 8, (0, 0, 0, 0, 0, 0)), (215, 3, .ifCond .eq 7, (222, 0, 0, 0, 0, 0)), (218, 1, .iconst 1, (0, 0, 0, 0, 0, 0)), (219, 3, .goto 5, (224, 0, 0, 0, 0, 0)), (222, 2, .bipush (-4), (0, 0, 0, 0, 0, 0)), (224, 3, .if_icmp .ne 7, (231, 0, 0, 0, 0, 0)),
  (227, 1, .iconst 1, (0, 0, 0, 0, 0, 0)), (228, 3, .goto 4, (232, 0, 0, 0, 0, 0)), (231, 1, .iconst 0, (0, 0, 0, 0, 0, 0)), (232, 2, .istore 7, (0, 0, 0, 0, 0, 0)), (234, 1, .iload_n 3, (0, 0, 0, 0, 0, 0)), (235, 2, .bipush 11, (0, 0, 0, 0, 0, 0)),
  (237, 1, .ishr, (0, 0, 0, 0, 0, 0)), (238, 2, .bipush 7, (0, 0, 0, 0, 0, 0)), (240, 1, .iand, (0, 0, 0, 0, 0, 0)), (241, 3, .ifCond .ne 48, (289, 0, 0, 0, 0, 0)), (244, 1, .aload_n 2, (0, 0, 0, 0, 0, 0)), (245, 2, .iload 5, (0, 0, 0, 0, 0, 0)),
  (247, 1, .iaload, (0, 0, 0, 0, 0, 0)), (248, 2, .istore 8, (0, 0, 0, 0, 0, 0)), (250, 1, .aload_n 2, (0, 0, 0, 0, 0, 0)), (251, 2, .iload 5, (0, 0, 0, 0, 0, 0)), (253, 2, .bipush (-9), (0, 0, 0, 0, 0, 0)), (255, 1, .iastore, (0, 0, 0, 0, 0, 0))]
def z_L_stir_3 : List zI := [
  (256, 2, .iload 7, (0, 0, 0, 0, 0, 0)), (258, 3, .ifCond .eq 28, (286, 0, 0, 0, 0, 0)), (261, 1, .aload_n 0, (0, 0, 0, 0, 0, 0)), (262, 2, .iload 5, (0, 0, 0, 0, 0, 0)), (264, 3, .invokevirtual 65, (77, 0, 1, 1, 3, 5)), (267, 2, .iload 8, (0, 0, 0, 0, 0, 0)),
  (269, 3, .ifCond .ge 8, (277, 0, 0, 0, 0, 0)), (272, 2, .bipush (-4), (0, 0, 0, 0, 0, 0)), (274, 3, .goto 5, (279, 0, 0, 0, 0, 0)), (277, 2, .iload 8, (0, 0, 0, 0, 0, 0)), (279, 3, .if_icmp .ne 7, (286, 0, 0, 0, 0, 0)), (282, 1, .iconst 1, (0, 0, 0, 0, 0, 0)),
  (283, 3, .goto 4, (287, 0, 0, 0, 0, 0)), (286, 1, .iconst 0, (0, 0, 0, 0, 0, 0)), (287, 2, .istore 7, (0, 0, 0, 0, 0, 0)), (289, 1, .iconst 1, (0, 0, 0, 0, 0, 0)), (290, 1, .iload_n 3, (0, 0, 0, 0, 0, 0)), (291, 2, .bipush 14, (0, 0, 0, 0, 0, 0)),
  (293, 1, .ishr, (0, 0, 0, 0, 0, 0)), (294, 2, .bipush 9, (0, 0, 0, 0, 0, 0)), (296, 3, .invokestatic 15, (131, 2, 2, 1, 2, 0)), (299, 1, .iadd, (0, 0, 0, 0, 0, 0)), (300, 2, .istore 8, (0, 0, 0, 0, 0, 0)), (302, 1, .aload_n 2, (0, 0, 0, 0, 0, 0)),
  (303, 2, .bipush 6, (0, 0, 0, 0, 0, 0)), (305, 2, .iload 5, (0, 0, 0, 0, 0, 0)), (307, 1, .iadd, (0, 0, 0, 0, 0, 0)), (308, 1, .iaload, (0, 0, 0, 0, 0, 0)), (309, 2, .istore 9, (0, 0, 0, 0, 0, 0)), (311, 1, .aload_n 2, (0, 0, 0, 0, 0, 0)),
  (312, 2, .bipush 6, (0, 0, 0, 0, 0, 0)), (314, 2, .iload 5, (0, 0, 0, 0, 0, 0)), (316, 1, .iadd, (0, 0, 0, 0, 0, 0)), (317, 2, .iload 8, (0, 0, 0, 0, 0, 0)), (319, 1, .iastore, (0, 0, 0, 0, 0, 0)), (320, 2, .iload 7, (0, 0, 0, 0, 0, 0)),
  (322, 3, .ifCond .eq 32, (354, 0, 0, 0, 0, 0)), (325, 1, .aload_n 0, (0, 0, 0, 0, 0, 0)), (326, 2, .iload 5, (0, 0, 0, 0, 0, 0)), (328, 2, .iload 8, (0, 0, 0, 0, 0, 0)), (330, 3, .invokevirtual 68, (79, 0, 2, 1, 4, 5)), (333, 2, .iload 9, (0, 0, 0, 0, 0, 0)),
  (335, 2, .iload 8, (0, 0, 0, 0, 0, 0)), (337, 3, .if_icmp .ne 8, (345, 0, 0, 0, 0, 0)), (340, 2, .bipush (-4), (0, 0, 0, 0, 0, 0)), (342, 3, .goto 5, (347, 0, 0, 0, 0, 0)), (345, 2, .iload 9, (0, 0, 0, 0, 0, 0)), (347, 3, .if_icmp .ne 7, (354, 0, 0, 0, 0, 0))]
def z_L_stir_4 : List zI := [
  (350, 1, .iconst 1, (0, 0, 0, 0, 0, 0)), (351, 3, .goto 4, (355, 0, 0, 0, 0, 0)), (354, 1, .iconst 0, (0, 0, 0, 0, 0, 0)), (355, 1, .ireturn, (1, 0, 0, 0, 0, 0))]
def z_L_stir : List zI := z_L_stir_0 ++ (z_L_stir_1 ++ (z_L_stir_2 ++ (z_L_stir_3 ++ (z_L_stir_4))))
def z_L_told : List zI := [
  (0, 1, .aload_n 0, (0, 0, 0, 0, 0, 0)), (1, 1, .iload_n 1, (0, 0, 0, 0, 0, 0)), (2, 1, .iload_n 2, (0, 0, 0, 0, 0, 0)), (3, 3, .invokevirtual 74, (74, 0, 2, 1, 3, 5)), (6, 1, .iconst 1, (0, 0, 0, 0, 0, 0)), (7, 3, .if_icmp .ne 10, (17, 0, 0, 0, 0, 0)),
  (10, 1, .aload_n 0, (0, 0, 0, 0, 0, 0)), (11, 3, .invokevirtual 77, (101, 0, 0, 1, 1, 5)), (14, 3, .goto 5, (19, 0, 0, 0, 0, 0)), (17, 2, .bipush (-99), (0, 0, 0, 0, 0, 0)), (19, 1, .ireturn, (0, 0, 0, 0, 0, 0))]
def zcds : List (List zI) := [z_L_law, z_X0_init, z_X0_begin, z_X0_copyFrom, z_X0_manDetail, z_X0_hookDetail, z_X0_tiredTogether, z_X0_writeTo, z_X0_readFrom, z_X0_isFree, z_X0_hangs, z_X0_move, z_X0_swap, z_X0_takeAllDown, z_X0_hangBy, z_X0_hangByFirstPlan, z_X0_hangByNextPlan, z_X0_moveOn, z_X0_messmatePairs, z_X0_isIn, z_X0_howManyIn, z_X0_bitOfWhoIsInAt, z_X0_neighbourBits, z_X0_wakings, z_X0_wakingsFrom, z_X0_allWakings, z_X0_mostWakings, z_X0_tire, z_X0_inTheWayOf, z_X0_firstToGetUp, z_X0_hasBulkierNeighbour, z_X1_init, z_X1_hasHook, z_X1_hasMan, z_X1_addHook, z_X1_addMan, z_X1_mostMen, z_X1_planCount, z_X1_isOf, z_X1_bitsOf, z_X1_bulk, z_X1_placeWakes, z_X2_init, z_X2_isMissing, z_X2_hasRoomFor, z_X2_begin, z_X2_add, z_X2_discard, z_X2_copyFrom, z_X2_goBackTo, z_X3_init, z_X3_read, z_X3_skipBlanks, z_X3_readHooks, z_X3_readMan, z_X3_letterIn, z_X3_readFigure, z_X4_init, z_X4_isMissing, z_X4_has, z_X4_get, z_X4_set, z_X4_renew, z_X4_discard, z_X4_digestedOnto, z_X5_init, z_X5_row, z_X5_lay, z_X5_at, z_X5_tear, z_X5_text, z_X5_put, z_X5_fault, z_X5_deck, z_X5_man, z_X5_hook, z_X5_hang, z_X5_down, z_X5_change, z_X5_line, z_X5_night, z_X5_undo, z_X5_keep, z_X5_on, z_X5_neighbours, z_X5_woken, z_X5_all, z_X5_worst, z_X5_by, z_X5_best, z_X5_fair, z_X5_mixed, z_X5_judge, z_X5_gain, z_X5_calm, z_X5_mates, z_X5_cut, z_X5_up, z_X5_fits, z_X5_mid, z_X5_lots, z_X5_asked, z_X5_upper, z_X5_lower, z_X5_count, z_X5_digest, z_X5_rowAt, z_X5_textAt, z_X5_isWhen, z_X5_isKeptPlace, z_X5_found, z_X5_tell, z_X5_tellMean, z_X5_commonDivisor, z_X5_renewed, z_X5_sleptThrough, z_X5_wakingsWithout, z_X5_beginPlans, z_X5_leastPlan, z_X5_weighed, z_X5_firstGladPair, z_X5_wouldBothGladlyChange, z_X5_countFitting, z_X5_fitsBook, z_X5_fitsBookBy, z_X5_counted, z_X5_howManyThere, z_X5_howManyKept, z_J6_bitCount_0f7a4, z_J7_fill_53178, z_L_cell, z_L_low, z_L_letter, z_L_placeLetter, z_L_deck, z_L_bits, z_L_whoAt, z_L_stir, z_L_told]
def zcd (mi : Nat) : List zI := zcds.getD mi []
abbrev i_L_law : Nat := 0
abbrev i_X0_init : Nat := 1
abbrev i_X0_begin : Nat := 2
abbrev i_X0_copyFrom : Nat := 3
abbrev i_X0_manDetail : Nat := 4
abbrev i_X0_hookDetail : Nat := 5
abbrev i_X0_tiredTogether : Nat := 6
abbrev i_X0_writeTo : Nat := 7
abbrev i_X0_readFrom : Nat := 8
abbrev i_X0_isFree : Nat := 9
abbrev i_X0_hangs : Nat := 10
abbrev i_X0_move : Nat := 11
abbrev i_X0_swap : Nat := 12
abbrev i_X0_takeAllDown : Nat := 13
abbrev i_X0_hangBy : Nat := 14
abbrev i_X0_hangByFirstPlan : Nat := 15
abbrev i_X0_hangByNextPlan : Nat := 16
abbrev i_X0_moveOn : Nat := 17
abbrev i_X0_messmatePairs : Nat := 18
abbrev i_X0_isIn : Nat := 19
abbrev i_X0_howManyIn : Nat := 20
abbrev i_X0_bitOfWhoIsInAt : Nat := 21
abbrev i_X0_neighbourBits : Nat := 22
abbrev i_X0_wakings : Nat := 23
abbrev i_X0_wakingsFrom : Nat := 24
abbrev i_X0_allWakings : Nat := 25
abbrev i_X0_mostWakings : Nat := 26
abbrev i_X0_tire : Nat := 27
abbrev i_X0_inTheWayOf : Nat := 28
abbrev i_X0_firstToGetUp : Nat := 29
abbrev i_X0_hasBulkierNeighbour : Nat := 30
abbrev i_X1_init : Nat := 31
abbrev i_X1_hasHook : Nat := 32
abbrev i_X1_hasMan : Nat := 33
abbrev i_X1_addHook : Nat := 34
abbrev i_X1_addMan : Nat := 35
abbrev i_X1_mostMen : Nat := 36
abbrev i_X1_planCount : Nat := 37
abbrev i_X1_isOf : Nat := 38
abbrev i_X1_bitsOf : Nat := 39
abbrev i_X1_bulk : Nat := 40
abbrev i_X1_placeWakes : Nat := 41
abbrev i_X2_init : Nat := 42
abbrev i_X2_isMissing : Nat := 43
abbrev i_X2_hasRoomFor : Nat := 44
abbrev i_X2_begin : Nat := 45
abbrev i_X2_add : Nat := 46
abbrev i_X2_discard : Nat := 47
abbrev i_X2_copyFrom : Nat := 48
abbrev i_X2_goBackTo : Nat := 49
abbrev i_X3_init : Nat := 50
abbrev i_X3_read : Nat := 51
abbrev i_X3_skipBlanks : Nat := 52
abbrev i_X3_readHooks : Nat := 53
abbrev i_X3_readMan : Nat := 54
abbrev i_X3_letterIn : Nat := 55
abbrev i_X3_readFigure : Nat := 56
abbrev i_X4_init : Nat := 57
abbrev i_X4_isMissing : Nat := 58
abbrev i_X4_has : Nat := 59
abbrev i_X4_get : Nat := 60
abbrev i_X4_set : Nat := 61
abbrev i_X4_renew : Nat := 62
abbrev i_X4_discard : Nat := 63
abbrev i_X4_digestedOnto : Nat := 64
abbrev i_X5_init : Nat := 65
abbrev i_X5_row : Nat := 66
abbrev i_X5_lay : Nat := 67
abbrev i_X5_at : Nat := 68
abbrev i_X5_tear : Nat := 69
abbrev i_X5_text : Nat := 70
abbrev i_X5_put : Nat := 71
abbrev i_X5_fault : Nat := 72
abbrev i_X5_deck : Nat := 73
abbrev i_X5_man : Nat := 74
abbrev i_X5_hook : Nat := 75
abbrev i_X5_hang : Nat := 76
abbrev i_X5_down : Nat := 77
abbrev i_X5_change : Nat := 78
abbrev i_X5_line : Nat := 79
abbrev i_X5_night : Nat := 80
abbrev i_X5_undo : Nat := 81
abbrev i_X5_keep : Nat := 82
abbrev i_X5_on : Nat := 83
abbrev i_X5_neighbours : Nat := 84
abbrev i_X5_woken : Nat := 85
abbrev i_X5_all : Nat := 86
abbrev i_X5_worst : Nat := 87
abbrev i_X5_by : Nat := 88
abbrev i_X5_best : Nat := 89
abbrev i_X5_fair : Nat := 90
abbrev i_X5_mixed : Nat := 91
abbrev i_X5_judge : Nat := 92
abbrev i_X5_gain : Nat := 93
abbrev i_X5_calm : Nat := 94
abbrev i_X5_mates : Nat := 95
abbrev i_X5_cut : Nat := 96
abbrev i_X5_up : Nat := 97
abbrev i_X5_fits : Nat := 98
abbrev i_X5_mid : Nat := 99
abbrev i_X5_lots : Nat := 100
abbrev i_X5_asked : Nat := 101
abbrev i_X5_upper : Nat := 102
abbrev i_X5_lower : Nat := 103
abbrev i_X5_count : Nat := 104
abbrev i_X5_digest : Nat := 105
abbrev i_X5_rowAt : Nat := 106
abbrev i_X5_textAt : Nat := 107
abbrev i_X5_isWhen : Nat := 108
abbrev i_X5_isKeptPlace : Nat := 109
abbrev i_X5_found : Nat := 110
abbrev i_X5_tell : Nat := 111
abbrev i_X5_tellMean : Nat := 112
abbrev i_X5_commonDivisor : Nat := 113
abbrev i_X5_renewed : Nat := 114
abbrev i_X5_sleptThrough : Nat := 115
abbrev i_X5_wakingsWithout : Nat := 116
abbrev i_X5_beginPlans : Nat := 117
abbrev i_X5_leastPlan : Nat := 118
abbrev i_X5_weighed : Nat := 119
abbrev i_X5_firstGladPair : Nat := 120
abbrev i_X5_wouldBothGladlyChange : Nat := 121
abbrev i_X5_countFitting : Nat := 122
abbrev i_X5_fitsBook : Nat := 123
abbrev i_X5_fitsBookBy : Nat := 124
abbrev i_X5_counted : Nat := 125
abbrev i_X5_howManyThere : Nat := 126
abbrev i_X5_howManyKept : Nat := 127
abbrev i_J6_bitCount_0f7a4 : Nat := 128
abbrev i_J7_fill_53178 : Nat := 129
abbrev i_L_cell : Nat := 130
abbrev i_L_low : Nat := 131
abbrev i_L_letter : Nat := 132
abbrev i_L_placeLetter : Nat := 133
abbrev i_L_deck : Nat := 134
abbrev i_L_bits : Nat := 135
abbrev i_L_whoAt : Nat := 136
abbrev i_L_stir : Nat := 137
abbrev i_L_told : Nat := 138
end
section
/-! running the pure machine: with fuel, then without -/
def zst (r : zE) (Kc K : zK) : zK := fun mi pc lv st h => match zlk (zcd mi) pc with
  | none => none
  | some q => zx r Kc K mi pc q.1 q.2.1 q.2.2 lv st h
def zrun (r : zE) : Nat → zK
  | 0 => fun _ _ _ _ _ => none
  | n + 1 => zst r (zrun r n) (zrun r n)
def zle (K K' : zK) : Prop := ∀ a b c d e q, K a b c d e = some q → K' a b c d e = some q
def zAd (G : zK → Option zRes) : Prop := (∀ K K', zle K K' → ∀ q, G K = some q → G K' = some q) ∧ (∀ Kn : Nat → zK, (∀ i j, i ≤ j → zle (Kn i) (Kn j)) → ∀ E : zK, (∀ a b c d e q, E a b c d e = some q → ∃ n, Kn n a b c d e = some q) → ∀ q, G E = some q → ∃ n, G (Kn n) = some q)
section INV
variable {X : Type} {q : X}
theorem zp1i_inv {st : List Value} {k : Int32 → List Value → Option X} (h : zp1i st k = some q) : ∃ x t, st = .int x :: t ∧ k x t = some q := by
  unfold zp1i at h; split at h
  · exact ⟨_, _, rfl, h⟩
  · cases h
theorem zp2i_inv {st : List Value} {k : Int32 → Int32 → List Value → Option X} (h : zp2i st k = some q) : ∃ x y t, st = .int y :: .int x :: t ∧ k x y t = some q := by
  unfold zp2i at h; split at h
  · exact ⟨_, _, _, rfl, h⟩
  · cases h
theorem zp1l_inv {st : List Value} {k : Int64 → List Value → Option X} (h : zp1l st k = some q) : ∃ x t, st = .long x :: t ∧ k x t = some q := by
  unfold zp1l at h; split at h
  · exact ⟨_, _, rfl, h⟩
  · cases h
theorem zp2l_inv {st : List Value} {k : Int64 → Int64 → List Value → Option X} (h : zp2l st k = some q) : ∃ x y t, st = .long y :: .long x :: t ∧ k x y t = some q := by
  unfold zp2l at h; split at h
  · exact ⟨_, _, _, rfl, h⟩
  · cases h
theorem zp1r_inv {st : List Value} {k : Nat → List Value → Option X} (h : zp1r st k = some q) : ∃ x t, st = .ref x :: t ∧ k x t = some q := by
  unfold zp1r at h; split at h
  · exact ⟨_, _, rfl, h⟩
  · cases h
theorem zp1q_inv {st : List Value} {k : Option Nat → List Value → Option X} (h : zp1q st k = some q) : ∃ x t, st = va_rf x :: t ∧ k x t = some q := by
  unfold zp1q at h; split at h
  · exact ⟨some _, _, rfl, h⟩
  · exact ⟨none, _, rfl, h⟩
  · cases h
theorem zpia_inv {st : List Value} {k : Nat → Int32 → List Value → Option X} (h : zpia st k = some q) : ∃ a x t, st = .int x :: .ref a :: t ∧ k a x t = some q := by
  unfold zpia at h; split at h
  · exact ⟨_, _, _, rfl, h⟩
  · cases h
theorem zpla_inv {st : List Value} {k : Nat → Int64 → List Value → Option X} (h : zpla st k = some q) : ∃ a x t, st = .long x :: .ref a :: t ∧ k a x t = some q := by
  unfold zpla at h; split at h
  · exact ⟨_, _, _, rfl, h⟩
  · cases h
theorem zpra_inv {st : List Value} {k : Nat → Nat → List Value → Option X} (h : zpra st k = some q) : ∃ a x t, st = .ref x :: .ref a :: t ∧ k a x t = some q := by
  unfold zpra at h; split at h
  · exact ⟨_, _, _, rfl, h⟩
  · cases h
theorem zpiia_inv {st : List Value} {k : Nat → Int32 → Int32 → List Value → Option X} (h : zpiia st k = some q) : ∃ a i x t, st = .int x :: .int i :: .ref a :: t ∧ k a i x t = some q := by
  unfold zpiia at h; split at h
  · exact ⟨_, _, _, _, rfl, h⟩
  · cases h
theorem zpria_inv {st : List Value} {k : Nat → Int32 → Nat → List Value → Option X} (h : zpria st k = some q) : ∃ a i x t, st = .ref x :: .int i :: .ref a :: t ∧ k a i x t = some q := by
  unfold zpria at h; split at h
  · exact ⟨_, _, _, _, rfl, h⟩
  · cases h
theorem zpcp_inv {st : List Value} {k : Nat → Int32 → Nat → Int32 → Int32 → List Value → Option X} (h : zpcp st k = some q) : ∃ a0 sp a1 dp n t, st = .int n :: .int dp :: .ref a1 :: .int sp :: .ref a0 :: t ∧ k a0 sp a1 dp n t = some q := by
  unfold zpcp at h; split at h
  · exact ⟨_, _, _, _, _, _, rfl, h⟩
  · cases h
theorem zp1v_inv {st : List Value} {k : Value → List Value → Option X} (h : zp1v st k = some q) : ∃ v t, st = v :: t ∧ v.category = 1 ∧ k v t = some q := by
  unfold zp1v at h; split at h
  · split at h
    · exact ⟨_, _, rfl, by assumption, h⟩
    · cases h
  · cases h
theorem zp2v_inv {st : List Value} {k : Value → Value → List Value → Option X} (h : zp2v st k = some q) : ∃ v u t, st = v :: u :: t ∧ (v.category = 1 ∧ u.category = 1) ∧ k v u t = some q := by
  unfold zp2v at h; split at h
  · split at h
    · exact ⟨_, _, _, rfl, by assumption, h⟩
    · cases h
  · cases h
theorem zpop_inv {st : List Value} {n : Nat} {k : List Value → List Value → Option X} (h : zpop st n k = some q) : ∃ as t, st = as.reverse ++ t ∧ as.length = n ∧ (t.map fun v => v.category).sum ≤ 8 ∧ (n ≤ st.length ∧ as = (st.take n).reverse ∧ t = st.drop n) ∧ k as t = some q := by
  unfold zpop at h; split at h
  · rename_i c
    refine ⟨_, _, ?_, ?_, c.2, ⟨c.1, rfl, rfl⟩, h⟩
    · simp
    · simp; omega
  · cases h
theorem zli_inv {lv : List (Option Value)} {i : Nat} {k : Int32 → Option X} (h : zli lv i k = some q) : ∃ x, lv[i]? = some (some (.int x)) ∧ k x = some q := by
  unfold zli at h; split at h
  · exact ⟨_, by assumption, h⟩
  · cases h
theorem zll_inv {lv : List (Option Value)} {i : Nat} {k : Int64 → Option X} (h : zll lv i k = some q) : ∃ x, lv[i]? = some (some (.long x)) ∧ k x = some q := by
  unfold zll at h; split at h
  · exact ⟨_, by assumption, h⟩
  · cases h
theorem zlq_inv {lv : List (Option Value)} {i : Nat} {k : Value → Option X} (h : zlq lv i k = some q) : ∃ x, lv[i]? = some (some (va_rf x)) ∧ k (va_rf x) = some q := by
  unfold zlq at h; split at h
  · exact ⟨some _, by assumption, h⟩
  · exact ⟨none, by assumption, h⟩
  · cases h
theorem zs1_inv {lv : List (Option Value)} {i : Nat} {v : Value} {k : List (Option Value) → Option X} (h : zs1 lv i v k = some q) : i < lv.length ∧ k ((zcl lv i).set i (some v)) = some q := by
  unfold zs1 at h; split at h
  · exact ⟨by assumption, h⟩
  · cases h
theorem zs2_inv {lv : List (Option Value)} {i : Nat} {v : Value} {k : List (Option Value) → Option X} (h : zs2 lv i v k = some q) : i + 1 < lv.length ∧ k (((zcl lv i).set i (some v)).set (i + 1) none) = some q := by
  unfold zs2 at h; split at h
  · exact ⟨by assumption, h⟩
  · cases h
end INV
theorem zca_inv {kind : Nat} {o : Option zRes} {k : List Value → zH → Option zRes} {q : zRes} (h : zca kind o k = some q) : ∃ (v : Option Value) (g : zH), o = some (v, g) ∧ (∀ k', zca kind (some (v, g)) k' = k' v.toList g) ∧ k v.toList g = some q := by
  match kind with
  | 0 =>
    simp only [zca, zcV] at h
    split at h
    · exact ⟨none, _, rfl, fun _ => rfl, h⟩
    · cases h
  | 1 =>
    simp only [zca, zcI] at h
    split at h
    · exact ⟨some _, _, rfl, fun _ => rfl, h⟩
    · cases h
  | 2 =>
    simp only [zca, zcL] at h
    split at h
    · exact ⟨some _, _, rfl, fun _ => rfl, h⟩
    · cases h
  | _ + 3 =>
    simp only [zca, zcQ] at h
    split at h
    · exact ⟨some _, _, rfl, fun _ => rfl, h⟩
    · exact ⟨some _, _, rfl, fun _ => rfl, h⟩
    · cases h
section ADM
theorem zAd_c (c : Option zRes) : zAd (fun _ => c) := ⟨fun _ _ _ _ h => h, fun _ _ _ _ _ h => ⟨0, h⟩⟩
theorem zAd_K (a b c d e) : zAd (fun K => K a b c d e) := ⟨fun _ _ h _ hq => h _ _ _ _ _ _ hq, fun _ _ _ hE _ hq => hE _ _ _ _ _ _ hq⟩
theorem zAd_ite {c : Prop} [Decidable c] {G1 G2 : zK → Option zRes} (h1 : zAd G1) (h2 : zAd G2) : zAd (fun K => if c then G1 K else G2 K) := by
  by_cases hc : c
  · simpa only [if_pos hc] using h1
  · simpa only [if_neg hc] using h2
theorem zAd_bind {α : Type} {o : Option α} {G : α → zK → Option zRes} (h : ∀ v, zAd (G v)) : zAd (fun K => o.bind fun v => G v K) := by
  cases o with
  | none => exact zAd_c none
  | some v => exact h v
theorem zAd_ca {kind : Nat} {a b c d e} {G : List Value → zH → zK → Option zRes} (h : ∀ v g, zAd (G v g)) : zAd (fun K => zca kind (K a b c d e) fun v g => G v g K) := by
  refine ⟨fun K K' hK q hq => ?_, fun Kn hm E hE q hq => ?_⟩
  · obtain ⟨v, g, e1, e2, e3⟩ := zca_inv hq
    show zca kind (K' a b c d e) _ = _
    rw [hK _ _ _ _ _ _ e1, e2]
    exact (h _ _).1 K K' hK q e3
  · obtain ⟨v, g, e1, e2, e3⟩ := zca_inv hq
    obtain ⟨n1, h1⟩ := hE _ _ _ _ _ _ e1
    obtain ⟨n2, h2⟩ := (h _ _).2 Kn hm E hE q e3
    refine ⟨n1 + n2, ?_⟩
    show zca kind (Kn (n1 + n2) a b c d e) _ = _
    rw [hm n1 (n1 + n2) (by omega) _ _ _ _ _ _ h1, e2]
    exact (h _ _).1 _ _ (hm n2 (n1 + n2) (by omega)) q h2
variable {st : List Value} {lv : List (Option Value)} {i n pc : Nat} {v : Value}
theorem zAd_1i {G : Int32 → List Value → zK → Option zRes} (h : ∀ x t, zAd (G x t)) : zAd (fun K => zp1i st fun x t => G x t K) :=
  ⟨fun K K' hK q hq => by obtain ⟨_, _, rfl, hq⟩ := zp1i_inv hq; exact (h _ _).1 K K' hK q hq, fun Kn hm E hE q hq => by obtain ⟨_, _, rfl, hq⟩ := zp1i_inv hq; exact (h _ _).2 Kn hm E hE q hq⟩
theorem zAd_2i {G : Int32 → Int32 → List Value → zK → Option zRes} (h : ∀ x y t, zAd (G x y t)) : zAd (fun K => zp2i st fun x y t => G x y t K) :=
  ⟨fun K K' hK q hq => by obtain ⟨_, _, _, rfl, hq⟩ := zp2i_inv hq; exact (h _ _ _).1 K K' hK q hq, fun Kn hm E hE q hq => by obtain ⟨_, _, _, rfl, hq⟩ := zp2i_inv hq; exact (h _ _ _).2 Kn hm E hE q hq⟩
theorem zAd_1l {G : Int64 → List Value → zK → Option zRes} (h : ∀ x t, zAd (G x t)) : zAd (fun K => zp1l st fun x t => G x t K) :=
  ⟨fun K K' hK q hq => by obtain ⟨_, _, rfl, hq⟩ := zp1l_inv hq; exact (h _ _).1 K K' hK q hq, fun Kn hm E hE q hq => by obtain ⟨_, _, rfl, hq⟩ := zp1l_inv hq; exact (h _ _).2 Kn hm E hE q hq⟩
theorem zAd_2l {G : Int64 → Int64 → List Value → zK → Option zRes} (h : ∀ x y t, zAd (G x y t)) : zAd (fun K => zp2l st fun x y t => G x y t K) :=
  ⟨fun K K' hK q hq => by obtain ⟨_, _, _, rfl, hq⟩ := zp2l_inv hq; exact (h _ _ _).1 K K' hK q hq, fun Kn hm E hE q hq => by obtain ⟨_, _, _, rfl, hq⟩ := zp2l_inv hq; exact (h _ _ _).2 Kn hm E hE q hq⟩
theorem zAd_1r {G : Nat → List Value → zK → Option zRes} (h : ∀ x t, zAd (G x t)) : zAd (fun K => zp1r st fun x t => G x t K) :=
  ⟨fun K K' hK q hq => by obtain ⟨_, _, rfl, hq⟩ := zp1r_inv hq; exact (h _ _).1 K K' hK q hq, fun Kn hm E hE q hq => by obtain ⟨_, _, rfl, hq⟩ := zp1r_inv hq; exact (h _ _).2 Kn hm E hE q hq⟩
theorem zp1q_k {X : Type} {x : Option Nat} {t : List Value} {k : Option Nat → List Value → Option X} : zp1q (va_rf x :: t) k = k x t := by cases x <;> rfl
theorem zAd_1q {G : Option Nat → List Value → zK → Option zRes} (h : ∀ x t, zAd (G x t)) : zAd (fun K => zp1q st fun x t => G x t K) :=
  ⟨fun K K' hK q hq => by obtain ⟨_, _, rfl, hq2⟩ := zp1q_inv hq; simp only [zp1q_k]; exact (h _ _).1 K K' hK q hq2, fun Kn hm E hE q hq => by obtain ⟨_, _, rfl, hq2⟩ := zp1q_inv hq; simp only [zp1q_k]; exact (h _ _).2 Kn hm E hE q hq2⟩
theorem zAd_ia {G : Nat → Int32 → List Value → zK → Option zRes} (h : ∀ x y t, zAd (G x y t)) : zAd (fun K => zpia st fun x y t => G x y t K) :=
  ⟨fun K K' hK q hq => by obtain ⟨_, _, _, rfl, hq⟩ := zpia_inv hq; exact (h _ _ _).1 K K' hK q hq, fun Kn hm E hE q hq => by obtain ⟨_, _, _, rfl, hq⟩ := zpia_inv hq; exact (h _ _ _).2 Kn hm E hE q hq⟩
theorem zAd_la {G : Nat → Int64 → List Value → zK → Option zRes} (h : ∀ x y t, zAd (G x y t)) : zAd (fun K => zpla st fun x y t => G x y t K) :=
  ⟨fun K K' hK q hq => by obtain ⟨_, _, _, rfl, hq⟩ := zpla_inv hq; exact (h _ _ _).1 K K' hK q hq, fun Kn hm E hE q hq => by obtain ⟨_, _, _, rfl, hq⟩ := zpla_inv hq; exact (h _ _ _).2 Kn hm E hE q hq⟩
theorem zAd_ra {G : Nat → Nat → List Value → zK → Option zRes} (h : ∀ x y t, zAd (G x y t)) : zAd (fun K => zpra st fun x y t => G x y t K) :=
  ⟨fun K K' hK q hq => by obtain ⟨_, _, _, rfl, hq⟩ := zpra_inv hq; exact (h _ _ _).1 K K' hK q hq, fun Kn hm E hE q hq => by obtain ⟨_, _, _, rfl, hq⟩ := zpra_inv hq; exact (h _ _ _).2 Kn hm E hE q hq⟩
theorem zAd_iia {G : Nat → Int32 → Int32 → List Value → zK → Option zRes} (h : ∀ x y z t, zAd (G x y z t)) : zAd (fun K => zpiia st fun x y z t => G x y z t K) :=
  ⟨fun K K' hK q hq => by obtain ⟨_, _, _, _, rfl, hq⟩ := zpiia_inv hq; exact (h _ _ _ _).1 K K' hK q hq, fun Kn hm E hE q hq => by obtain ⟨_, _, _, _, rfl, hq⟩ := zpiia_inv hq; exact (h _ _ _ _).2 Kn hm E hE q hq⟩
theorem zAd_ria {G : Nat → Int32 → Nat → List Value → zK → Option zRes} (h : ∀ x y z t, zAd (G x y z t)) : zAd (fun K => zpria st fun x y z t => G x y z t K) :=
  ⟨fun K K' hK q hq => by obtain ⟨_, _, _, _, rfl, hq⟩ := zpria_inv hq; exact (h _ _ _ _).1 K K' hK q hq, fun Kn hm E hE q hq => by obtain ⟨_, _, _, _, rfl, hq⟩ := zpria_inv hq; exact (h _ _ _ _).2 Kn hm E hE q hq⟩
theorem zAd_cp {G : Nat → Int32 → Nat → Int32 → Int32 → List Value → zK → Option zRes} (h : ∀ a b c d e t, zAd (G a b c d e t)) : zAd (fun K => zpcp st fun a b c d e t => G a b c d e t K) :=
  ⟨fun K K' hK q hq => by obtain ⟨_, _, _, _, _, _, rfl, hq⟩ := zpcp_inv hq; exact (h _ _ _ _ _ _).1 K K' hK q hq, fun Kn hm E hE q hq => by obtain ⟨_, _, _, _, _, _, rfl, hq⟩ := zpcp_inv hq; exact (h _ _ _ _ _ _).2 Kn hm E hE q hq⟩
theorem zAd_1v {G : Value → List Value → zK → Option zRes} (h : ∀ x t, zAd (G x t)) : zAd (fun K => zp1v st fun x t => G x t K) :=
  ⟨fun K K' hK q hq => by obtain ⟨_, _, rfl, hc, hq⟩ := zp1v_inv hq; simp only [zp1v, if_pos hc]; exact (h _ _).1 K K' hK q hq, fun Kn hm E hE q hq => by obtain ⟨_, _, rfl, hc, hq⟩ := zp1v_inv hq; simp only [zp1v, if_pos hc]; exact (h _ _).2 Kn hm E hE q hq⟩
theorem zAd_2v {G : Value → Value → List Value → zK → Option zRes} (h : ∀ x y t, zAd (G x y t)) : zAd (fun K => zp2v st fun x y t => G x y t K) :=
  ⟨fun K K' hK q hq => by obtain ⟨_, _, _, rfl, hc, hq⟩ := zp2v_inv hq; simp only [zp2v, if_pos hc]; exact (h _ _ _).1 K K' hK q hq, fun Kn hm E hE q hq => by obtain ⟨_, _, _, rfl, hc, hq⟩ := zp2v_inv hq; simp only [zp2v, if_pos hc]; exact (h _ _ _).2 Kn hm E hE q hq⟩
theorem zAd_pop {G : List Value → List Value → zK → Option zRes} (h : ∀ x t, zAd (G x t)) : zAd (fun K => zpop st n fun x t => G x t K) := by
  unfold zpop
  exact zAd_ite (h _ _) (zAd_c none)
theorem zAd_li {G : Int32 → zK → Option zRes} (h : ∀ x, zAd (G x)) : zAd (fun K => zli lv i fun x => G x K) :=
  ⟨fun K K' hK q hq => by obtain ⟨_, e, hq⟩ := zli_inv hq; simp only [zli, e]; exact (h _).1 K K' hK q hq, fun Kn hm E hE q hq => by obtain ⟨_, e, hq⟩ := zli_inv hq; simp only [zli, e]; exact (h _).2 Kn hm E hE q hq⟩
theorem zAd_ll {G : Int64 → zK → Option zRes} (h : ∀ x, zAd (G x)) : zAd (fun K => zll lv i fun x => G x K) :=
  ⟨fun K K' hK q hq => by obtain ⟨_, e, hq⟩ := zll_inv hq; simp only [zll, e]; exact (h _).1 K K' hK q hq, fun Kn hm E hE q hq => by obtain ⟨_, e, hq⟩ := zll_inv hq; simp only [zll, e]; exact (h _).2 Kn hm E hE q hq⟩
theorem zlq_k {X : Type} {x : Option Nat} {k : Value → Option X} (e : lv[i]? = some (some (va_rf x))) : zlq lv i k = k (va_rf x) := by cases x <;> simp only [zlq, e, va_rf]
theorem zAd_lq {G : Value → zK → Option zRes} (h : ∀ x, zAd (G x)) : zAd (fun K => zlq lv i fun x => G x K) :=
  ⟨fun K K' hK q hq => by obtain ⟨_, e, hq2⟩ := zlq_inv hq; simp only [zlq_k e]; exact (h _).1 K K' hK q hq2, fun Kn hm E hE q hq => by obtain ⟨_, e, hq2⟩ := zlq_inv hq; simp only [zlq_k e]; exact (h _).2 Kn hm E hE q hq2⟩
theorem zAd_s1 {G : List (Option Value) → zK → Option zRes} (h : ∀ x, zAd (G x)) : zAd (fun K => zs1 lv i v fun x => G x K) := by
  unfold zs1
  exact zAd_ite (h _) (zAd_c none)
theorem zAd_s2 {G : List (Option Value) → zK → Option zRes} (h : ∀ x, zAd (G x)) : zAd (fun K => zs2 lv i v fun x => G x K) := by
  unfold zs2
  exact zAd_ite (h _) (zAd_c none)
theorem zAd_ts {G : Nat → zK → Option zRes} (h : ∀ x, zAd (G x)) (x : Int32) (d : Int) : ∀ (os : List Int) (lo : Int), zAd (fun K => zts pc (fun q => G q K) x lo os d)
  | [], _ => h _
  | o :: os, lo => by
    simp only [zts]
    exact zAd_ite (h _) (zAd_ts h x d os _)
theorem zAd_ls {G : Nat → zK → Option zRes} (h : ∀ x, zAd (G x)) (x : Int32) (d : Int) : ∀ (os : List (Int × Int)), zAd (fun K => zls pc (fun q => G q K) x os d)
  | [] => h _
  | o :: os => by
    simp only [zls]
    exact zAd_ite (h _) (zAd_ls h x d os)
theorem zAd_on {x : Option Nat} {G1 : zK → Option zRes} {G2 : Nat → zK → Option zRes} (h1 : zAd G1) (h2 : ∀ b, zAd (G2 b)) : zAd (fun K => match x with | none => G1 K | some b => G2 b K) := by
  cases x with
  | none => exact h1
  | some b => exact h2 b
end ADM
set_option maxHeartbeats 4000000 in
theorem zAd_x (r : zE) (mi pc n : Nat) (ins : Instr) (w : zL) (lv : List (Option Value)) (st : List Value) (h : zH) : zAd (fun K => zx r K K mi pc n ins w lv st h) := by
  unfold zx
  split <;> (try split) <;> (try split) <;> first
    | exact zAd_c _
    | exact zAd_K _ _ _ _ _
    | (repeat' (first | exact zAd_c _ | exact zAd_K _ _ _ _ _ | refine zAd_on ?_ (fun _ => ?_) | refine zAd_1i (fun _ _ => ?_) | refine zAd_2i (fun _ _ _ => ?_) | refine zAd_1l (fun _ _ => ?_) | refine zAd_2l (fun _ _ _ => ?_) | refine zAd_1r (fun _ _ => ?_) | refine zAd_1q (fun _ _ => ?_) | refine zAd_ia (fun _ _ _ => ?_) | refine zAd_la (fun _ _ _ => ?_) | refine zAd_ra (fun _ _ _ => ?_) | refine zAd_iia (fun _ _ _ _ => ?_) | refine zAd_ria (fun _ _ _ _ => ?_) | refine zAd_cp (fun _ _ _ _ _ _ => ?_) | refine zAd_1v (fun _ _ => ?_) | refine zAd_2v (fun _ _ _ => ?_) | refine zAd_pop (fun _ _ => ?_) | refine zAd_li (fun _ => ?_) | refine zAd_ll (fun _ => ?_) | refine zAd_lq (fun _ => ?_) | refine zAd_s1 (fun _ => ?_) | refine zAd_s2 (fun _ => ?_) | refine zAd_ca (fun _ _ => ?_) | exact zAd_ts (fun _ => zAd_K _ _ _ _ _) _ _ _ _ | exact zAd_ls (fun _ => zAd_K _ _ _ _ _) _ _ _ | refine zAd_bind (fun _ => ?_) | refine zAd_ite ?_ ?_ | split))
end
section
/-! what a run comes to, without fuel; and runs up to chosen places -/
theorem zAd_st (r : zE) (mi pc : Nat) (lv : List (Option Value)) (st : List Value) (h : zH) : zAd (fun K => zst r K K mi pc lv st h) := by
  unfold zst
  cases zlk (zcd mi) pc with
  | none => exact zAd_c none
  | some q => exact zAd_x r mi pc q.1 q.2.1 q.2.2 lv st h
theorem zrun_succ (r : zE) : ∀ n, zle (zrun r n) (zrun r (n + 1))
  | 0 => fun _ _ _ _ _ _ h => by cases h
  | n + 1 => fun a b c d e q h => (zAd_st r a b c d e).1 _ _ (zrun_succ r n) q h
theorem zrun_le (r : zE) (i : Nat) : ∀ j, i ≤ j → zle (zrun r i) (zrun r j)
  | 0, h => by
    have : i = 0 := by omega
    subst this
    exact fun _ _ _ _ _ _ h => h
  | j + 1, h => by
    by_cases hij : i = j + 1
    · subst hij
      exact fun _ _ _ _ _ _ h => h
    · exact fun a b c d e q hq => zrun_succ r j _ _ _ _ _ _ (zrun_le r i j (by omega) _ _ _ _ _ _ hq)
noncomputable def zev (r : zE) : zK := fun mi pc lv st h => @dite _ (∃ q, ∃ n, zrun r n mi pc lv st h = some q) (Classical.propDecidable _) (fun hq => some (Classical.choose hq)) (fun _ => none)
theorem zev_iff {r : zE} {mi pc : Nat} {lv : List (Option Value)} {st : List Value} {h : zH} {q : zRes} : zev r mi pc lv st h = some q ↔ ∃ n, zrun r n mi pc lv st h = some q := by
  unfold zev
  constructor
  · intro e
    split at e
    · rename_i hq
      cases e
      exact Classical.choose_spec hq
    · cases e
  · rintro ⟨n, hn⟩
    have hq : ∃ q, ∃ n, zrun r n mi pc lv st h = some q := ⟨q, n, hn⟩
    rw [dif_pos hq]
    obtain ⟨m, hm⟩ := Classical.choose_spec hq
    have h1 := zrun_le r n (n + m) (by omega) _ _ _ _ _ _ hn
    have h2 := zrun_le r m (n + m) (by omega) _ _ _ _ _ _ hm
    exact h2.symm.trans h1
theorem zev_st (r : zE) (mi pc : Nat) (lv : List (Option Value)) (st : List Value) (h : zH) : zev r mi pc lv st h = zst r (zev r) (zev r) mi pc lv st h := by
  have key : ∀ q, zev r mi pc lv st h = some q ↔ zst r (zev r) (zev r) mi pc lv st h = some q := by
    intro q
    rw [zev_iff]
    constructor
    · rintro ⟨n, hn⟩
      cases n with
      | zero => cases hn
      | succ n => exact (zAd_st r mi pc lv st h).1 (zrun r n) (zev r) (fun _ _ _ _ _ _ e => zev_iff.mpr ⟨n, e⟩) q hn
    · intro hq
      obtain ⟨n, hn⟩ := (zAd_st r mi pc lv st h).2 (zrun r) (zrun_le r) (zev r) (fun _ _ _ _ _ _ e => zev_iff.mp e) q hq
      exact ⟨n + 1, hn⟩
  cases e1 : zev r mi pc lv st h with
  | some q => exact ((key q).mp e1).symm
  | none =>
    cases e2 : zst r (zev r) (zev r) mi pc lv st h with
    | none => rfl
    | some q => rw [(key q).mpr e2] at e1; cases e1
noncomputable def zevS (r : zE) (stop : List Nat) : Nat → zK
  | 0 => zev r
  | k + 1 => fun mi pc lv st h => match stop.elem pc with
    | true => zev r mi pc lv st h
    | false => zst r (zev r) (zevS r stop k) mi pc lv st h
theorem zevS_eq (r : zE) (stop : List Nat) : ∀ k, zevS r stop k = zev r
  | 0 => rfl
  | k + 1 => by
    funext mi pc lv st h
    show (match stop.elem pc with | true => _ | false => _) = _
    rw [zevS_eq r stop k]
    split
    · rfl
    · exact (zev_st r mi pc lv st h).symm
theorem zblk (r : zE) (stop : List Nat) (k mi pc : Nat) (lv : List (Option Value)) (st : List Value) (h : zH) : zev r mi pc lv st h = zst r (zev r) (zevS r stop k) mi pc lv st h := by
  rw [zevS_eq]
  exact zev_st r mi pc lv st h
end
section
/-! what the tables say of every method, and the check of the code against them -/
def zcls : List vw_C := [(RX0, TX0, 5), (RX1, TX1, 7), (RX2, TX2, 2), (RX3, TX3, 3), (RX4, TX4, 2), (RX5, TX5, 12)]
def zty (ci : Nat) : Nat → FieldType := match ci with
  | 0 => tyX0
  | 1 => tyX1
  | 2 => tyX2
  | 3 => tyX3
  | 4 => tyX4
  | _ => tyX5
def zstat : List (String × String × String) := [("HammockDeck", "KIND_BULK", "[I"), ("HammockDeck", "KIND_LETTERS", "[C"), ("HammockDeck", "PLACE_LETTERS", "[C"), ("HammockDeck", "PLACE_WAKES", "[I")]
def zYs : List MethodName := [yL_law, yX0_init, yX0_begin, yX0_copyFrom, yX0_manDetail, yX0_hookDetail, yX0_tiredTogether, yX0_writeTo, yX0_readFrom, yX0_isFree, yX0_hangs, yX0_move, yX0_swap, yX0_takeAllDown, yX0_hangBy, yX0_hangByFirstPlan, yX0_hangByNextPlan, yX0_moveOn, yX0_messmatePairs, yX0_isIn, yX0_howManyIn, yX0_bitOfWhoIsInAt, yX0_neighbourBits, yX0_wakings, yX0_wakingsFrom, yX0_allWakings, yX0_mostWakings, yX0_tire, yX0_inTheWayOf, yX0_firstToGetUp, yX0_hasBulkierNeighbour, yX1_init, yX1_hasHook, yX1_hasMan, yX1_addHook, yX1_addMan, yX1_mostMen, yX1_planCount, yX1_isOf, yX1_bitsOf, yX1_bulk, yX1_placeWakes, yX2_init, yX2_isMissing, yX2_hasRoomFor, yX2_begin, yX2_add, yX2_discard, yX2_copyFrom, yX2_goBackTo, yX3_init, yX3_read, yX3_skipBlanks, yX3_readHooks, yX3_readMan, yX3_letterIn, yX3_readFigure, yX4_init, yX4_isMissing, yX4_has, yX4_get, yX4_set, yX4_renew, yX4_discard, yX4_digestedOnto, yX5_init, yX5_row, yX5_lay, yX5_at, yX5_tear, yX5_text, yX5_put, yX5_fault, yX5_deck, yX5_man, yX5_hook, yX5_hang, yX5_down, yX5_change, yX5_line, yX5_night, yX5_undo, yX5_keep, yX5_on, yX5_neighbours, yX5_woken, yX5_all, yX5_worst, yX5_by, yX5_best, yX5_fair, yX5_mixed, yX5_judge, yX5_gain, yX5_calm, yX5_mates, yX5_cut, yX5_up, yX5_fits, yX5_mid, yX5_lots, yX5_asked, yX5_upper, yX5_lower, yX5_count, yX5_digest, yX5_rowAt, yX5_textAt, yX5_isWhen, yX5_isKeptPlace, yX5_found, yX5_tell, yX5_tellMean, yX5_commonDivisor, yX5_renewed, yX5_sleptThrough, yX5_wakingsWithout, yX5_beginPlans, yX5_leastPlan, yX5_weighed, yX5_firstGladPair, yX5_wouldBothGladlyChange, yX5_countFitting, yX5_fitsBook, yX5_fitsBookBy, yX5_counted, yX5_howManyThere, yX5_howManyKept, yJ6_bitCount_0f7a4, yJ7_fill_53178, yL_cell, yL_low, yL_letter, yL_placeLetter, yL_deck, yL_bits, yL_whoAt, yL_stir, yL_told]
def zY (mi : Nat) : MethodName := zYs.getD mi yL_law
def zBs : List ByteArray := [cL_law, cX0_init, cX0_begin, cX0_copyFrom, cX0_manDetail, cX0_hookDetail, cX0_tiredTogether, cX0_writeTo, cX0_readFrom, cX0_isFree, cX0_hangs, cX0_move, cX0_swap, cX0_takeAllDown, cX0_hangBy, cX0_hangByFirstPlan, cX0_hangByNextPlan, cX0_moveOn, cX0_messmatePairs, cX0_isIn, cX0_howManyIn, cX0_bitOfWhoIsInAt, cX0_neighbourBits, cX0_wakings, cX0_wakingsFrom, cX0_allWakings, cX0_mostWakings, cX0_tire, cX0_inTheWayOf, cX0_firstToGetUp, cX0_hasBulkierNeighbour, cX1_init, cX1_hasHook, cX1_hasMan, cX1_addHook, cX1_addMan, cX1_mostMen, cX1_planCount, cX1_isOf, cX1_bitsOf, cX1_bulk, cX1_placeWakes, cX2_init, cX2_isMissing, cX2_hasRoomFor, cX2_begin, cX2_add, cX2_discard, cX2_copyFrom, cX2_goBackTo, cX3_init, cX3_read, cX3_skipBlanks, cX3_readHooks, cX3_readMan, cX3_letterIn, cX3_readFigure, cX4_init, cX4_isMissing, cX4_has, cX4_get, cX4_set, cX4_renew, cX4_discard, cX4_digestedOnto, cX5_init, cX5_row, cX5_lay, cX5_at, cX5_tear, cX5_text, cX5_put, cX5_fault, cX5_deck, cX5_man, cX5_hook, cX5_hang, cX5_down, cX5_change, cX5_line, cX5_night, cX5_undo, cX5_keep, cX5_on, cX5_neighbours, cX5_woken, cX5_all, cX5_worst, cX5_by, cX5_best, cX5_fair, cX5_mixed, cX5_judge, cX5_gain, cX5_calm, cX5_mates, cX5_cut, cX5_up, cX5_fits, cX5_mid, cX5_lots, cX5_asked, cX5_upper, cX5_lower, cX5_count, cX5_digest, cX5_rowAt, cX5_textAt, cX5_isWhen, cX5_isKeptPlace, cX5_found, cX5_tell, cX5_tellMean, cX5_commonDivisor, cX5_renewed, cX5_sleptThrough, cX5_wakingsWithout, cX5_beginPlans, cX5_leastPlan, cX5_weighed, cX5_firstGladPair, cX5_wouldBothGladlyChange, cX5_countFitting, cX5_fitsBook, cX5_fitsBookBy, cX5_counted, cX5_howManyThere, cX5_howManyKept, cJ6_bitCount_0f7a4, cJ7_fill_53178, cL_cell, cL_low, cL_letter, cL_placeLetter, cL_deck, cL_bits, cL_whoAt, cL_stir, cL_told]
def zB (mi : Nat) : ByteArray := zBs.getD mi cL_law
def zMls : List Nat := [29, 2, 2, 2, 3, 3, 3, 3, 4, 2, 2, 3, 5, 1, 4, 2, 3, 3, 5, 3, 4, 4, 3, 5, 6, 4, 4, 5, 6, 3, 5, 1, 2, 2, 2, 5, 1, 3, 3, 4, 2, 2, 2, 1, 2, 2, 2, 1, 2, 3, 3, 3, 1, 2, 5, 3, 4, 1, 1, 2, 2, 3, 3, 1, 6, 2, 3, 5, 4, 3, 3, 6, 3, 5, 3, 3, 3, 3, 3, 4, 2, 3, 2, 2, 3, 3, 2, 6, 8, 3, 3, 2, 4, 4, 3, 3, 7, 8, 4, 5, 7, 1, 1, 1, 2, 5, 2, 2, 1, 2, 2, 2, 7, 11, 5, 3, 4, 1, 8, 3, 4, 4, 6, 3, 5, 2, 3, 3, 1, 4, 2, 2, 1, 1, 8, 3, 4, 10, 3]
def zMl (mi : Nat) : Nat := zMls.getD mi 0
def zRts : List (Option FieldType) := [(some .boolean), none, none, none, (some .int), (some .int), (some .int), none, none, (some .boolean), (some .boolean), none, none, none, (some .boolean), none, none, (some .boolean), (some .int), (some .boolean), (some .int), (some .int), (some .int), (some .int), (some .int), (some .int), (some .int), (some .int), (some .int), (some .int), (some .boolean), none, (some .boolean), (some .boolean), none, none, (some .int), (some .int), (some .boolean), (some .int), (some .int), (some .int), none, (some .boolean), (some .boolean), none, none, none, none, none, none, (some .int), none, (some .boolean), (some .boolean), (some .int), (some .int), none, (some .boolean), (some .boolean), (some .int), none, none, none, (some .long), none, (some .int), (some .int), (some .int), (some .int), (some .int), (some .int), (some .int), (some .int), (some .int), (some .int), (some .int), (some .int), (some .int), (some .int), (some .int), (some .int), (some .int), (some .int), (some .int), (some .int), (some .int), (some .int), (some .int), (some .int), (some .int), (some .int), (some .int), (some .int), (some .int), (some .int), (some .int), (some .int), (some .int), (some .int), (some .int), (some .int), (some .long), (some .long), (some .int), (some .long), (some (.object "HammockDeck$Row")), (some (.object "HammockDeck$Row")), (some .boolean), (some .boolean), (some .int), none, none, (some .long), (some .int), (some .int), (some .int), none, (some .int), (some .int), (some .int), (some .boolean), none, (some .boolean), (some .boolean), (some .int), (some .int), (some .int), (some .int), none, (some .int), (some .int), (some .int), (some .int), (some .boolean), (some .int), (some .int), (some .boolean), (some .int)]
def zRt (mi : Nat) : (Option FieldType) := zRts.getD mi none
def zFrs : List Nat := [8, 4, 3, 1, 0, 0, 0, 1, 2, 1, 0, 1, 2, 1, 2, 2, 3, 2, 1, 0, 1, 1, 2, 2, 1, 3, 3, 3, 3, 4, 3, 1, 0, 0, 0, 2, 1, 0, 0, 1, 0, 0, 1, 0, 0, 2, 2, 0, 1, 3, 1, 4, 2, 3, 3, 2, 2, 1, 0, 0, 1, 1, 1, 0, 2, 5, 3, 2, 2, 1, 3, 2, 5, 5, 1, 1, 3, 3, 3, 3, 5, 4, 2, 4, 3, 3, 4, 3, 4, 6, 6, 6, 4, 4, 5, 4, 4, 5, 7, 4, 5, 0, 0, 0, 3, 3, 0, 0, 0, 0, 0, 0, 2, 1, 2, 4, 3, 3, 5, 4, 4, 3, 6, 5, 4, 2, 1, 1, 0, 0, 0, 0, 0, 0, 6, 0, 0, 4, 2]
def zFr (mi : Nat) : Nat := zFrs.getD mi 0
def zLos : List Nat := [189, 85, 64, 26, 0, 0, 0, 26, 43, 21, 0, 21, 43, 23, 43, 43, 65, 43, 21, 0, 22, 22, 45, 48, 23, 72, 72, 72, 67, 91, 67, 20, 0, 0, 0, 43, 23, 0, 0, 22, 0, 0, 20, 0, 0, 48, 48, 0, 26, 66, 20, 91, 42, 64, 67, 42, 42, 20, 0, 0, 21, 21, 23, 0, 42, 106, 69, 43, 42, 21, 69, 43, 113, 113, 22, 22, 69, 69, 69, 69, 118, 88, 47, 88, 67, 72, 95, 72, 95, 144, 144, 144, 95, 95, 118, 87, 95, 113, 166, 95, 118, 0, 0, 0, 66, 67, 0, 0, 0, 0, 0, 0, 53, 23, 45, 96, 72, 64, 117, 95, 95, 72, 141, 119, 95, 45, 20, 20, 0, 0, 0, 0, 0, 0, 137, 0, 0, 92, 44]
def zLo (mi : Nat) : Nat := zLos.getD mi 0
def zmem (i : Nat) (w : Cond) : Bool := decide (lw_tbl[i]? = some w)
theorem zmem_in {i : Nat} {w : Cond} (h : zmem i w = true) : w ∈ lw_tbl := List.mem_of_getElem? (of_decide_eq_true h)
def zlen (ins : Instr) (n : Nat) : Bool := match ins with
  | .bipush _ | .ldc _ | .iload _ | .lload _ | .aload _ | .istore _ | .lstore _ | .astore _ | .newarray _ => n == 2
  | .sipush _ | .ldc_w _ | .ldc2_w _ | .iinc _ _ | .goto _ | .ifCond _ _ | .if_icmp _ _ | .ifnull _ | .ifnonnull _ | .getfield _ | .putfield _ | .getstatic _ | .new _ | .anewarray _ | .invokevirtual _ | .invokespecial _ | .invokestatic _ => n == 3
  | .tableswitch _ _ _ _ | .lookupswitch _ _ => true
  | _ => n == 1
/-- numbers -/
def zokA (mi pc n : Nat) (ins : Instr) (w : zL) : Bool := zlen ins n && match ins with
  | .bipush i => decide ((Int8.ofInt i).toInt32 = Int32.ofInt i)
  | .sipush i => decide ((Int16.ofInt i).toInt32 = Int32.ofInt i)
  | .goto off => decide ((pc : Int) + off = (w.1 : Int))
  | .ifCond _ off => decide ((pc : Int) + off = (w.1 : Int))
  | .if_icmp _ off => decide ((pc : Int) + off = (w.1 : Int))
  | .ifnull off => decide ((pc : Int) + off = (w.1 : Int))
  | .ifnonnull off => decide ((pc : Int) + off = (w.1 : Int))
  | .tableswitch d lo hi os => decide (0 ≤ (pc : Int) + d ∧ hi + 1 = lo + os.toList.length ∧ -1000 ≤ lo ∧ lo ≤ 1000 ∧ os.toList.length ≤ 1000) && os.toList.all fun x => decide (0 ≤ (pc : Int) + x)
  | .lookupswitch d ps => decide (0 ≤ (pc : Int) + d) && ps.toList.all (fun x => decide (0 ≤ (pc : Int) + x.2 ∧ -1000 ≤ x.1 ∧ x.1 ≤ 1000)) && (ps.toList.zip (ps.toList.drop 1)).all (fun (a, next) => a.1 < next.1)
  | .ireturn => if w.1 = 0 then decide (zRt mi = some .int) else decide (zRt mi = some .boolean)
  | .lreturn => decide (zRt mi = some .long)
  | .areturn => decide (zRt mi = some (.object RX4))
  | .return_ => decide (zRt mi = none)
  | _ => true
def zcal (mi : Nat) (w : zL) (i j : Nat) : Bool := zmem i (.code (zY w.1) (zB w.1) (zMl w.1) (zRt w.1)) && zmem j (.initialized (zY w.1).cls) && decide (zMl w.1 = w.2.2.2.2.1 ∧ ((zY w.1).cls ≠ "java/lang/invoke/MethodHandle" ∧ (zY w.1).cls ≠ "java/lang/invoke/VarHandle" ∧ (parseMethodDescriptor (zY w.1).desc).map (fun d => d.parameters.length) = some w.2.2.1) ∧ zFr w.1 + 1 ≤ zFr mi ∧ 8 + (zMl w.1 + 11) + zLo w.1 ≤ zLo mi)
/-- links -/
def zokB (mi : Nat) (ins : Instr) (w : zL) (u : List Nat) : Bool := match ins with
  | .ldc ix => zmem (u.getD 0 0) (.constant (zY mi).cls ix (Int32.ofInt w.2.2.2.2.2))
  | .ldc_w ix => zmem (u.getD 0 0) (.constant (zY mi).cls ix (Int32.ofInt w.2.2.2.2.2))
  | .ldc2_w ix => zmem (u.getD 0 0) (.constantLong (zY mi).cls ix (Int64.ofInt w.2.2.2.2.2))
  | .getfield ix => match zcls[w.1]? with
    | some q => decide (w.2.1 < q.2.2) && (zmem (u.getD 0 0) (.fieldLink (zY mi).cls ix q.1 (q.2.1 w.2.1).2.1 (q.2.1 w.2.1).2.2.1) || zmem (u.getD 0 0) (.fieldLinkNest (zY mi).cls ix q.1 (q.2.1 w.2.1).2.1 (q.2.1 w.2.1).2.2.1 "HammockDeck"))
    | none => false
  | .putfield ix => match zcls[w.1]? with
    | some q => decide (w.2.1 < q.2.2) && (zmem (u.getD 0 0) (.fieldLink (zY mi).cls ix q.1 (q.2.1 w.2.1).2.1 (q.2.1 w.2.1).2.2.1) && (decide ((q.2.1 w.2.1).2.2.2 = false) || decide (q.1 = (zY mi).cls ∧ (zY mi).name = "<init>"))
        || zmem (u.getD 0 0) (.fieldLinkNest (zY mi).cls ix q.1 (q.2.1 w.2.1).2.1 (q.2.1 w.2.1).2.2.1 "HammockDeck") && decide ((q.2.1 w.2.1).2.2.2 = false))
      && (match w.2.2.1 with | 0 => decide (zty w.1 w.2.1 = .int) | 1 => decide (zty w.1 w.2.1 = .long) | _ => (match zty w.1 w.2.1 with | .object _ => true | .array _ => true | _ => false))
    | none => false
  | .getstatic ix => match zstat[w.1]? with
    | some q => zmem (u.getD 0 0) (.fieldLink (zY mi).cls ix q.1 q.2.1 q.2.2) || zmem (u.getD 0 0) (.fieldLinkNest (zY mi).cls ix q.1 q.2.1 q.2.2 "HammockDeck")
    | none => false
  | .new ix => match zcls[w.1]? with
    | some q => zmem (u.getD 0 0) (.classLink (zY mi).cls ix q.1)
    | none => false
  | .anewarray ix => match zcls[w.1]? with
    | some q => zmem (u.getD 0 0) (.classLink (zY mi).cls ix q.1) && zmem (u.getD 1 0) (.arrayOver (.object q.1)) && decide (w.1 = 4 ∨ w.1 = 2)
    | none => false
  | .invokevirtual ix => zmem (u.getD 0 0) (.methodLink (zY mi).cls ix (zY w.1)) && zcal mi w (u.getD 1 0) (u.getD 2 0) && zmem (u.getD 3 0) (.instanceMethod (zY w.1)) && (match zcls[w.2.2.2.2.2.toNat]? with
    | some q => zmem (u.getD 4 0) (.selects q.1 (zY w.1) (zY w.1))
    | none => false)
  | .invokespecial ix => match w.2.1 with
    | 4 => zmem (u.getD 0 0) (.methodLink (zY mi).cls ix Lib.objectInit) && zmem (u.getD 1 0) (.instanceMethod Lib.objectInit) && zmem (u.getD 2 0) (.code Lib.objectInit ⟨#[0xb1]⟩ 1 none) && decide (1 ≤ zFr mi ∧ 20 ≤ zLo mi)
    | _ => (zmem (u.getD 0 0) (.methodLink (zY mi).cls ix (zY w.1)) || zmem (u.getD 0 0) (.methodLinkNest (zY mi).cls ix (zY w.1) "HammockDeck")) && zcal mi w (u.getD 1 0) (u.getD 2 0) && zmem (u.getD 3 0) (.instanceMethod (zY w.1)) && decide ((zY w.1).name = "<init>" ∧ zRt w.1 = none)
  | .invokestatic ix => match w.2.1 with
    | 3 => zmem (u.getD 0 0) (.methodLink (zY mi).cls ix arraycopyName) && zmem (u.getD 1 0) (.native arraycopyName) && zmem (u.getD 2 0) (.static arraycopyName) && zmem (u.getD 3 0) (.initialized "java/lang/System") && decide (1 ≤ zFr mi ∧ 26 ≤ zLo mi)
    | 5 => zmem (u.getD 0 0) (.methodLink (zY mi).cls ix Lib.Math.abs.name) && zmem (u.getD 1 0) (.static Lib.Math.abs.name) && zmem (u.getD 2 0) (.initialized "java/lang/Math") && zmem (u.getD 3 0) (.code Lib.Math.abs.name Lib.Math.abs.code 1 (some .int)) && decide (1 ≤ zFr mi ∧ 23 ≤ zLo mi)
    | 6 => zmem (u.getD 0 0) (.methodLink (zY mi).cls ix Lib.Math.max.name) && zmem (u.getD 1 0) (.static Lib.Math.max.name) && zmem (u.getD 2 0) (.initialized "java/lang/Math") && zmem (u.getD 3 0) (.code Lib.Math.max.name Lib.Math.max.code 2 (some .int)) && decide (1 ≤ zFr mi ∧ 23 ≤ zLo mi)
    | 7 => zmem (u.getD 0 0) (.methodLink (zY mi).cls ix Lib.Math.min.name) && zmem (u.getD 1 0) (.static Lib.Math.min.name) && zmem (u.getD 2 0) (.initialized "java/lang/Math") && zmem (u.getD 3 0) (.code Lib.Math.min.name Lib.Math.min.code 2 (some .int)) && decide (1 ≤ zFr mi ∧ 23 ≤ zLo mi)
    | 8 => zmem (u.getD 0 0) (.methodLink (zY mi).cls ix Lib.MathLoose.abs_long.x) && zmem (u.getD 1 0) (.static Lib.MathLoose.abs_long.x) && zmem (u.getD 2 0) (.initialized "java/lang/Math") && zmem (u.getD 3 0) (.code Lib.MathLoose.abs_long.x Lib.MathLoose.abs_long.code 2 (some .long)) && decide (1 ≤ zFr mi ∧ 23 ≤ zLo mi)
    | 9 => zmem (u.getD 0 0) (.methodLink (zY mi).cls ix Lib.MathLoose.max_long.x) && zmem (u.getD 1 0) (.static Lib.MathLoose.max_long.x) && zmem (u.getD 2 0) (.initialized "java/lang/Math") && zmem (u.getD 3 0) (.code Lib.MathLoose.max_long.x Lib.MathLoose.max_long.code 4 (some .long)) && decide (1 ≤ zFr mi ∧ 23 ≤ zLo mi)
    | _ => zmem (u.getD 0 0) (.methodLink (zY mi).cls ix (zY w.1)) && zcal mi w (u.getD 1 0) (u.getD 2 0) && zmem (u.getD 3 0) (.static (zY w.1))
  | _ => true
def zchk (mi : Nat) : Bool → List zI → List (List Nat) → Bool
  | _, [], _ => true
  | b, e :: l, u => decide (decode (zB mi) e.1 = .ok (e.2.2.1, e.2.1)) && zokA mi e.1 e.2.1 e.2.2.1 e.2.2.2 && zokB mi e.2.2.1 e.2.2.2 (u.headD []) && zchk mi b l u.tail
theorem zchk_at {mi : Nat} : ∀ {l : List zI} {u : List (List Nat)}, zchk mi true l u = true → ∀ {pc : Nat} {q : Nat × Instr × zL}, zlk l pc = some q → decode (zB mi) pc = .ok (q.2.1, q.1) ∧ zokA mi pc q.1 q.2.1 q.2.2 = true ∧ ∃ u, zokB mi q.2.1 q.2.2 u = true
  | [], _, _, _, _, hq => by cases hq
  | e :: l, u, h, pc, q, hq => by
    simp only [zchk, Bool.and_eq_true] at h
    obtain ⟨⟨⟨h1, h2⟩, h3⟩, h4⟩ := h
    unfold zlk at hq
    split at hq
    · rename_i hp
      cases hq
      rw [← hp]
      exact ⟨of_decide_eq_true h1, h2, _, h3⟩
    · exact zchk_at h4 hq
def zu_0_0 : List (List Nat) := [[40], [], [42, 44, 30, 43], [], [], [], [], [], [], [], [], [], [], []]
def zu_0_1 : List (List Nat) := [[730, 732, 29, 731]]
def zu_0_2 : List (List Nat) := [[], [], [], [], [], [], [], [], [706, 709, 30, 707, 708], [], [], [], [451, 454, 30, 452, 453], [], [], [], [], [], [], [], [], [], [], [], [], [722, 724, 29, 723], [], [], [], [], []]
def zu_0_3 : List (List Nat) := [[754, 756, 29, 755]]
def zu_0_4 : List (List Nat) := [[], [], [], [], [], [], [], [], [], [], [], [], [], [], [], [351, 354, 30, 352, 353], [], [], [], [661, 664, 30, 662, 663], [], [], [], [], [], [], [], [], [], [], [], [], [], [], [765, 767, 29, 766], [], [], [], [], [], [], [], [], [], [], [], [], []]
def zu_0_5 : List (List Nat) := [[], [], [], [673, 676, 30, 674, 675], [], [], [706, 709, 30, 707, 708], [], [], [], [], [673, 676, 30, 674, 675], [], [], [], [], [], [], [], [], [], [], [], [], [], [], [], [], [], [], [], [], [], [], [472, 475, 30, 473, 474], [], [], [], [], [485, 488, 30, 486, 487], [], [], [], [], [765, 767, 29, 766], [], [], []]
def zu_0_6 : List (List Nat) := [[], [], [], [765, 767, 29, 766], [], [], [], [], [], [], [], [], [], [], [], [], [], [], [], [], [], [], [], [], [], [], [], [], [], [], [], [], [], [], [], [], [], [], [], [], [], [], [751, 753, 29, 752], [], [], [], [], []]
def zu_0_7 : List (List Nat) := [[], [], [], [], [], [], [], [], [], [], [], [], [], [], [], [], [765, 767, 29, 766], [], [], [], [], [], [], [765, 767, 29, 766], [], [], [], [], [], [], [], [], [], [], [], [], [], [], [], [], [], [], [], [], [], [], [], []]
def zu_0_8 : List (List Nat) := [[], [], [], [472, 475, 30, 473, 474], [], [], [], [], [], [], [], [], [], [], [], [], [507, 510, 30, 508, 509], [], [], [661, 664, 30, 662, 663], [], [], [], [], [], [], [], [], [], [], [], [], [], [], [], [], [], [], [], [], [], [], [], [], [], [], [], []]
def zu_0_9 : List (List Nat) := [[], [360, 363, 30, 361, 362], [], [], [], [], [485, 488, 30, 486, 487], [], [], [], [], [], [], [439, 442, 30, 440, 441], [], [], [], [], [], [485, 488, 30, 486, 487], [], [], [], [], [], [], [], [599, 602, 30, 600, 601], [], [], [661, 664, 30, 662, 663], [], [], [], [490, 493, 30, 491, 492], [], [], [], [], [], [], [], [], [], [], [], [], []]
def zu_0_10 : List (List Nat) := [[], [765, 767, 29, 766], [], [], [], [], [390, 393, 30, 391, 392], [], [], [], [], [490, 493, 30, 491, 492], [], [], [], [], [439, 442, 30, 440, 441], [], [], [], [], [], [], [765, 767, 29, 766], [], [], [], [], [], [], [], [], [], [], [490, 493, 30, 491, 492], [], [], [], [661, 664, 30, 662, 663], [], [], [], [], [], [], [502, 505, 30, 503, 504], [], []]
def zu_0_11 : List (List Nat) := [[661, 664, 30, 662, 663], [], [], [], [], [], [], [], [], [], [], [], [], [], [], [], [], [], [], [], [], [485, 488, 30, 486, 487], [], [], [], [], [], [], [578, 581, 30, 579, 580], [], [], [661, 664, 30, 662, 663], [], [], [], [], [], [], [], [], [], [], [], [], [], [], [], []]
def zu_0_12 : List (List Nat) := [[], [], [574, 577, 30, 575, 576], [], [], [], [], [], [], [], [], [], [], [], [], [], [], [], [], [], [], [], [], [], [], [], [], [], [], [], [574, 577, 30, 575, 576], [], [], [], [], [485, 488, 30, 486, 487], [], [], [], [], [485, 488, 30, 486, 487], [], [], [], [], [765, 767, 29, 766], [], []]
def zu_0_13 : List (List Nat) := [[], [], [765, 767, 29, 766], [], [], [], [], [], [], [], [], [765, 767, 29, 766], [], [], [], [], [765, 767, 29, 766], [], [], [], [], [], [], [765, 767, 29, 766], [], [], [], [], [], [], [], [765, 767, 29, 766], [], [], [], [], [], [], [], [], [], [], [], [], [], [574, 577, 30, 575, 576], [], []]
def zu_0_14 : List (List Nat) := [[], [], [], [], [], [], [], [], [], [], [], [382, 385, 30, 383, 384], [], [], [], [], [490, 493, 30, 491, 492], [], [], [], [], [], [], [], [], [], [], [], [], [], [], [], [485, 488, 30, 486, 487], [], [], [], [], [], [485, 488, 30, 486, 487], [], [], [], [], [], [], [], [], []]
def zu_0_15 : List (List Nat) := [[], [439, 442, 30, 440, 441], [], [], [], [], [], [], [], [], [], [], [], [], [], [], [], [], [], [], [], [], [], [], [], [], [], [], [], [], [], [], [], [673, 676, 30, 674, 675], [], [], [], [394, 397, 30, 395, 396], [], [], [], [], [], [], [], [], [673, 676, 30, 674, 675], []]
def zu_0_16 : List (List Nat) := [[], [], [], [], [], [439, 442, 30, 440, 441], [], [], [], [706, 709, 30, 707, 708], [], [], [], [], [], [], [], [], [], [], [], [726, 728, 29, 727], [], [], [], [], [519, 522, 30, 520, 521], [], [], [], [], [557, 560, 30, 558, 559], [], [], [], [561, 564, 30, 562, 563], [], [], [], [], [], [], [565, 568, 30, 566, 567], [], [], [], [], []]
def zu_0_17 : List (List Nat) := [[565, 568, 30, 566, 567], [], [], [], [], [], [], [], [], [], [], [565, 568, 30, 566, 567], [], [], [], [565, 568, 30, 566, 567], [], [], [], [], [], [], [], [], [490, 493, 30, 491, 492], [], [], [], [], [490, 493, 30, 491, 492], [], [], [490, 493, 30, 491, 492], [], [], [], [], [], [], [], [], [519, 522, 30, 520, 521], [], [], [], [], [519, 522, 30, 520, 521], []]
def zu_0_18 : List (List Nat) := [[], [], [], [], [], [], [], [], [557, 560, 30, 558, 559], [], [], [], [], [], [565, 568, 30, 566, 567], [], [], [], [], [], [], [636, 639, 30, 637, 638], [], [], [], [665, 668, 30, 666, 667], [], [], [], [669, 672, 30, 670, 671], [], [], [], [], [669, 672, 30, 670, 671], [], [], [], [], [], [], [590, 593, 30, 591, 592], [], [], [661, 664, 30, 662, 663], [], [], []]
def zu_0_19 : List (List Nat) := [[], [], [], [], [], [], [], [], [], [], [], [], [], [], [], [], [], [], [], [603, 606, 30, 604, 605], [], [], [], [490, 493, 30, 491, 492], [], [], [], [], [661, 664, 30, 662, 663], [], [], [], [], [], [], [], [], [], [], [], [], [], [258, 261, 30, 259, 260], [], [], [], [661, 664, 30, 662, 663], []]
def zu_0_20 : List (List Nat) := [[], [], [], [], [], [], [], [], [], [], [], [], [], [], [], [], [], [], [], [765, 767, 29, 766], [], [], [], [], [], [], [], [765, 767, 29, 766], [], [], [], [], [], [], [], [], [], [], [], [], [], [], [], [], [258, 261, 30, 259, 260], [], [], []]
def zu_0_21 : List (List Nat) := [[], [], [], [], [], [], [], [], [], [206, 209, 30, 207, 208], [], [], [], [], [], [], [233, 236, 30, 234, 235], [], [], [], [], [], [], [], [], [565, 568, 30, 566, 567], [233, 236, 30, 234, 235], [], [], [], [], [], [], [233, 236, 30, 234, 235], [], [], [], [], [], [], [], [], [565, 568, 30, 566, 567], [233, 236, 30, 234, 235], [], [], [], []]
def zu_0_22 : List (List Nat) := [[620, 623, 30, 621, 622], [], [], [], [665, 668, 30, 666, 667], [], [], [], [], [669, 672, 30, 670, 671], [], [], [], [], [], [], [661, 664, 30, 662, 663], [], [], [665, 668, 30, 666, 667], [], [], [], [], [], [], [], [258, 261, 30, 259, 260], [], [], [], [661, 664, 30, 662, 663], [], [], [], [], [], [], [], [], [], [], [], [], [206, 209, 30, 207, 208], [], [], []]
def zu_0_23 : List (List Nat) := [[], [], [], [233, 236, 30, 234, 235], [], [], [], [], [], [], [], [], [565, 568, 30, 566, 567], [233, 236, 30, 234, 235], [], [], [], [], [620, 623, 30, 621, 622], [], [], [], [665, 668, 30, 666, 667], [], [], [], [], [], [], [], [], [], [772], [], [], [653, 656, 30, 654, 655], [], [], [], [673, 676, 30, 674, 675], [], [], [], [], [], [], [439, 442, 30, 440, 441], []]
def zu_0_24 : List (List Nat) := [[], [], [], [673, 676, 30, 674, 675], [], [], [], [], [673, 676, 30, 674, 675], [], [], [], [], [], [], [], [], [673, 676, 30, 674, 675], [], [], [], [451, 454, 30, 452, 453], [], [], [], [], [464, 467, 30, 465, 466], [], [], [], [673, 676, 30, 674, 675], [], [], [], [], [464, 467, 30, 465, 466], [], [], [], [], [439, 442, 30, 440, 441], [], [], [], [], [673, 676, 30, 674, 675], [], []]
def zu_0_25 : List (List Nat) := [[], [], [], [], [], [], [], [], [262, 265, 30, 263, 264], [], [], [], [], [], [], [], [], [270, 273, 30, 271, 272], [], [], [], [706, 709, 30, 707, 708], [], [], [], [], [], [], []]
def zu_0 : List (List Nat) := zu_0_0 ++ (zu_0_1 ++ (zu_0_2 ++ (zu_0_3 ++ (zu_0_4 ++ (zu_0_5 ++ (zu_0_6 ++ (zu_0_7 ++ (zu_0_8 ++ (zu_0_9 ++ (zu_0_10 ++ (zu_0_11 ++ (zu_0_12 ++ (zu_0_13 ++ (zu_0_14 ++ (zu_0_15 ++ (zu_0_16 ++ (zu_0_17 ++ (zu_0_18 ++ (zu_0_19 ++ (zu_0_20 ++ (zu_0_21 ++ (zu_0_22 ++ (zu_0_23 ++ (zu_0_24 ++ (zu_0_25)))))))))))))))))))))))))
def zu_1 : List (List Nat) := [[], [95, 46, 47], [], [], [], [123], [], [], [], [125], [], [], [], [126], [], [], [], [128], [], [], [96, 99, 32, 97, 98], []]
def zu_2 : List (List Nat) := [[], [], [122], [], [69], [], [], [126], [], [], [100, 102, 101, 33], [], [128], [], [103, 105, 34, 104], [], [106, 109, 32, 107, 108], []]
def zu_3 : List (List Nat) := [[], [], [122], [122], [], [123], [], [], [123], [], [], [100, 102, 101, 33], [], [125], [], [], [125], [], [], [100, 102, 101, 33], [], [126], [], [], [126], [], [], [100, 102, 101, 33], [], [128], [], [], [128], [], [], [100, 102, 101, 33], []]
def zu_4 : List (List Nat) := [[], [], [], [122], [67], [], [], [], [], [126], [], [], [], [], [122], [71], [], [], [], [], [122], [73], [], [], [], [], [123], [], [], [], [], [128], [], [], []]
def zu_5 : List (List Nat) := [[], [], [], [122], [65], [], [], [], [], [125], [], [], []]
def zu_6 : List (List Nat) := [[], [], [], [], [], [], [122], [62], [], [], [], [128], [], [], [], [], [], [], [], []]
def zu_7 : List (List Nat) := [[], [], [], [], [], [], [], [], [], [], [123], [], [], [], [], [100, 102, 101, 33], [], [126], [], [], [], [], [], [], [100, 102, 101, 33], [], [128], [], [], [], [], [], [], [100, 102, 101, 33], []]
def zu_8 : List (List Nat) := [[], [], [], [], [], [], [], [], [], [], [110, 113, 32, 112, 0], [], [], [], [], [122], [62], [], [], [], [], [], [], [], [], [114, 117, 32, 115, 116], [], [], [], [], [], [], [], [126], [], [], [100, 102, 101, 33], [], [], [], [], [], [128], [], [], [100, 102, 101, 33], []]
def zu_9 : List (List Nat) := [[], [122], [], [118, 121, 31, 119, 120], [], [], [125], [], [], [], [], [], [], [], []]
def zu_10 : List (List Nat) := [[], [123], [], [], [], [], [], [], [], []]
def zu_11 : List (List Nat) := [[], [122], [], [123], [], [], [118, 121, 31, 119, 120], [], [], [125], [], [123], [], [], [], [], [], [123], [], [], [], [], [122], [], [118, 121, 31, 119, 120], [], [], [125], [], [], [], []]
def zu_12 : List (List Nat) := [[], [123], [], [], [], [], [123], [], [], [], [], [], [], [114, 117, 32, 115, 116], [], [], [], [114, 117, 32, 115, 116], [], [], [], [114, 117, 32, 115, 116], []]
def zu_13 : List (List Nat) := [[], [123], [], [103, 105, 34, 104], [], [125], [], [103, 105, 34, 104], []]
def zu_14 : List (List Nat) := [[], [110, 113, 32, 112, 0], [], [], [], [], [122], [62], [], [], [], [573, 248, 36, 246, 247], [], [], [], [553, 556, 32, 554, 555], [], [], [], [], [], [], [114, 117, 32, 115, 116], [], [], [], []]
def zu_15 : List (List Nat) := [[], [110, 113, 32, 112, 0], [], [], [], [], [122], [62], [], [], [], [], [114, 117, 32, 115, 116], [], [], []]
def zu_16 : List (List Nat) := [[], [122], [62], [], [], [], [], [], [], [], [549, 552, 32, 551, 19], [], [], [], [], [], [], [], [], [], [122], [62], [], [], [], [549, 552, 32, 551, 19], [], [], [], []]
def zu_17 : List (List Nat) := [[], [], [123], [], [], [437, 230, 37, 231], [], [], [], [], [], [122], [58], [], [], [], [553, 556, 32, 554, 555], [], [], [], [], [114, 117, 32, 115, 116], [], [], [], [], [], [], [], [114, 117, 32, 115, 116], [], []]
def zu_18 : List (List Nat) := [[], [], [], [], [], [], [], [], [122], [58], [], [], [125], [], [], [], [], [125], [], [], [], [], [], [], [122], [], [427, 367, 31, 365, 366], [], [], [122], [], [427, 367, 31, 365, 366], [], [], [122], [73], [], [], [], [122], [73], [], [], [], [], [], [], [], []]
def zu_19 : List (List Nat) := [[], [123], [], [], [], [], [], [], [], [122], [71], [], [], [], [], [], [], [], [], [], []]
def zu_20 : List (List Nat) := [[], [], [], [], [], [], [122], [62], [], [], [], [], [413, 416, 32, 414, 415], [], [], [], [], [], []]
def zu_21 : List (List Nat) := [[], [122], [], [118, 121, 31, 119, 120], [], [], [], [], [125], [], [], [], [], [122], [], [427, 367, 31, 365, 366], [], [], [], [], [413, 416, 32, 414, 415], [], [], [], [], [], [], []]
def zu_22 : List (List Nat) := [[], [], [480, 371, 32, 369, 370], [], [], [], [], [], [123], [], [], [], [], [], [481, 484, 32, 483, 14], [], [], [123], [], [], [], [], [], [481, 484, 32, 483, 14], [], []]
def zu_23 : List (List Nat) := [[], [], [], [413, 416, 32, 414, 415], [], [], [], [], [123], [], [], [], [], [122], [], [417, 420, 31, 418, 419], [], [], [], [], [], [], [423, 426, 32, 425, 12], [], [], [], [], [], [], [], [423, 426, 32, 425, 12], [], [], [], [122], [67], [], [], [], [], [], [], [], [437, 230, 37, 231], [], [], [], [], [437, 230, 37, 231], []]
def zu_24 : List (List Nat) := [[], [122], [], [118, 121, 31, 119, 120], [], [], [], [], [125], [], [], [], [], [122], [], [427, 367, 31, 365, 366], [], [], [], [], [413, 416, 32, 414, 415], [], [], [], [], [122], [67], [], [], [], [], [], [122], [67], [], [], [], [], [], [], [], [], [], [126], [], [], [], [126], [], [], [], [428, 429, 37, 430], [], [122], [], [431, 434, 31, 432, 433], [], [], [122], [], [431, 434, 31, 432, 433], [], [], [], [], [], [], [], []]
def zu_25 : List (List Nat) := [[], [], [], [], [], [], [122], [62], [], [], [], [], [], [409, 412, 32, 410, 411], [], [], [], [], [], []]
def zu_26 : List (List Nat) := [[], [], [], [], [], [], [122], [62], [], [], [], [], [], [409, 412, 32, 410, 411], [437, 230, 37, 231], [], [], [], [], []]
def zu_27 : List (List Nat) := [[], [], [], [], [], [], [122], [62], [], [], [128], [], [], [], [], [128], [], [], [], [], [], [], [409, 412, 32, 410, 411], [], [438, 227, 37, 228], [], [], [], [128], [], [], [], [], [], [], [], [], [], []]
def zu_28 : List (List Nat) := [[], [], [], [615, 479, 32, 477, 478], [], [], [], [], [], [], [], [122], [62], [], [], [], [], [], [], [], [], [], [], [122], [], [431, 434, 31, 432, 433], [], [], [], [], [], [], []]
def zu_29 : List (List Nat) := [[], [], [], [], [122], [62], [], [], [], [], [413, 416, 32, 414, 415], [], [], [], [], [611, 614, 32, 613, 22], [], [], [], [], [], [], []]
def zu_30 : List (List Nat) := [[], [], [], [615, 479, 32, 477, 478], [], [], [], [], [], [122], [62], [], [], [], [], [], [], [], [], [122], [], [431, 434, 31, 432, 433], [], [122], [], [431, 434, 31, 432, 433], [], [], [], [], [], [], []]
def zu_31 : List (List Nat) := [[], [55, 46, 47], [], [], [56], [], [], [60], [], [], [], [64], [], [], [], [66], [], [], [], [68], [], [], [], [70], [], [], [], [72], []]
def zu_32 : List (List Nat) := [[], [], [], [], [56], [], [], [], [], []]
def zu_33 : List (List Nat) := [[], [], [], [], [60], [], [], [], [], []]
def zu_34 : List (List Nat) := [[], [56], [], [], [], [], [64], [], [56], [], [], [], [], [56], [], [], [56], []]
def zu_35 : List (List Nat) := [[], [60], [], [337, 321, 31, 319, 320], [], [], [], [66], [], [60], [], [], [], [68], [], [60], [], [], [], [70], [], [60], [], [], [], [72], [], [60], [], [], [], [], [60], [], [], [60], []]
def zu_36 : List (List Nat) := [[], [], [56], [322, 227, 37, 228], []]
def zu_37 : List (List Nat) := [[], [], [], [], [], [], [60], [], [], [], [56], [], [], [], [], [], [], [], []]
def zu_38 : List (List Nat) := [[], [66], [], [], [], [], [], [], [], [], [66], [], [], [], [], [], [], [], []]
def zu_39 : List (List Nat) := [[], [], [], [], [], [], [60], [], [], [], [], [689, 692, 31, 690, 691], [], [], [], [], [], [], [], [], [], [], []]
def zu_40 : List (List Nat) := [[435], [], [66], [], [], [], []]
def zu_41 : List (List Nat) := [[421], [], [64], [], [], [], []]
def zu_42 : List (List Nat) := [[], [145, 46, 47], [], [], [], [146], [], [], [147], []]
def zu_43 : List (List Nat) := [[], [147], [], [], [], [], [], []]
def zu_44 : List (List Nat) := [[], [], [], [147], [], [], [], [], [], []]
def zu_45 : List (List Nat) := [[], [], [147], [], [], [146], [], [343, 346, 32, 344, 345], []]
def zu_46 : List (List Nat) := [[], [], [381, 375, 35, 373, 374], [], [], [], [], [147], [], [], [147], [], [], [146], [], [147], [], [], [343, 346, 32, 344, 345], []]
def zu_47 : List (List Nat) := [[], [], [147], []]
def zu_48 : List (List Nat) := [[], [], [147], [147], [], [146], [], [], [146], [], [], [146], [], [463, 102, 101, 33], []]
def zu_49 : List (List Nat) := [[], [], [], [], [147], [], [], [], [], [147], [], [], [146], [], [], [], [447, 450, 32, 448, 449], []]
def zu_50 : List (List Nat) := [[], [283, 46, 47], [], [], [286], [], [], [284], [], [], [285], []]
def zu_51 : List (List Nat) := [[], [298, 301, 38, 300, 6], [], [303, 306, 38, 305, 7], [], [], [286], [], [], [298, 301, 38, 300, 6], [], [285], [318, 321, 31, 319, 320], [], [], [], [], [], [], [], [286], [], [284], [162], [], [], [323, 326, 38, 325, 9], [], [], [286], [], [], [298, 301, 38, 300, 6], [], [], [], [285], [61], [], [], [286], [], [284], [162], [], [], [], [], [286], []]
def zu_52 : List (List Nat) := [[], [286], [], [284], [162], [], [], [284], [], [286], [302, 248, 36, 246, 247], [], [], [], [], [286], [], [], [286], [], []]
def zu_53 : List (List Nat) := [[], [284], [], [286], [307, 244, 36, 242, 243], [], [], [284], [], [286], [302, 248, 36, 246, 247], [], [], [], [], [], [], [286], [], [], [286], [], [286], [], [284], [162], [], [], [308], [310, 313, 38, 312, 8], [], [], [], [], [], [], [285], [57], [], [], [], [], [], [285], [], [314, 317, 31, 315, 316], [], [], [286], [], [], [286], [], [], [285], [57], [], [], [], [], [], []]
def zu_54 : List (List Nat) := [[], [327], [310, 313, 38, 312, 8], [], [], [], [], [], [], [], [], [286], [], [], [286], [], [], [], [329, 332, 38, 331, 10], [], [], [], [], [], [], [], [], [], [329, 332, 38, 331, 10], [], [], [], [], [], [], [], [], [], [329, 332, 38, 331, 10], [], [], [], [], [], [], [], [285], [], [], [], [], [333, 336, 31, 334, 335], [], []]
def zu_55 : List (List Nat) := [[], [], [], [], [], [], [], [284], [], [286], [307, 244, 36, 242, 243], [], [], [284], [], [286], [302, 248, 36, 246, 247], [], [], [], [], [], [], [], [], [], []]
def zu_56 : List (List Nat) := [[], [284], [], [286], [307, 244, 36, 242, 243], [], [], [284], [], [286], [302, 248, 36, 246, 247], [], [], [], [], [], [], [], [], [], [], [], [], [], [], [], [286], [], [], [286], [], []]
def zu_57 : List (List Nat) := [[], [159, 46, 47], [], [], [], [160], [], [], [161], []]
def zu_58 : List (List Nat) := [[], [161], [], [], [], [], [], []]
def zu_59 : List (List Nat) := [[], [], [], [], [161], [], [], [], [], []]
def zu_60 : List (List Nat) := [[], [], [249, 244, 36, 242, 243], [], [], [160], [], [], [], [], []]
def zu_61 : List (List Nat) := [[], [], [249, 244, 36, 242, 243], [], [], [160], [], [], [], []]
def zu_62 : List (List Nat) := [[], [], [], [], [160], [], [226, 227, 37, 228], [229, 230, 37, 231], [161], [], [160], [], [232, 105, 34, 104], []]
def zu_63 : List (List Nat) := [[], [], [161], []]
def zu_64 : List (List Nat) := [[720], [], [], [], [161], [], [], [], [], [], [], [], [161], [], [720], [], [], [], [], [721, 248, 36, 246, 247], [], [], [], [], [], [], []]
def zu_65 : List (List Nat) := [[], [45, 46, 47], [], [], [48, 49], [169], [], [], [48, 49], [170], [], [50], [], [52, 54, 31, 53], [171], [], [90], [], [], [171], [92, 94, 32, 93], [172], [], [90], [], [], [171], [92, 94, 32, 93], [173], [], [140], [], [], [142, 144, 35, 143], [174], [], [], [140, 154], [175], [], [], [176], [], [], [177], [], [], [178], [], [], [179], [], [], [], [180], [], [], [], [], [169], [], [], [], [169], [], [48], [], [156, 158, 36, 157], [], [], [], [], [], [], [], [170], [], [], [], [170], [], [48], [], [156, 158, 36, 157], [], [], [], [], [], [], [], [175], [], [], [], [175], [], [140], [], [], [142, 144, 35, 143], [], [], [], []]
def zu_66 : List (List Nat) := [[], [], [], [210, 213, 30, 212, 1], [], [], [], [214, 217, 30, 216, 2], []]
def zu_67 : List (List Nat) := [[], [], [210, 213, 30, 212, 1], [], [], [], [], [], [], [237, 240, 36, 238, 239], [], [], [], [218, 221, 30, 220, 3], [], [], [], [241, 244, 36, 242, 243], [], [], [], [218, 221, 30, 220, 3], [], [], [], [], [245, 248, 36, 246, 247], [250, 253, 30, 252, 4], [], [], [], [254, 257, 36, 255, 256], [], []]
def zu_68 : List (List Nat) := [[], [], [210, 213, 30, 212, 1], [], [], [], [], [], [], [237, 240, 36, 238, 239], [], [], [], [218, 221, 30, 220, 3], [], [], [], [241, 244, 36, 242, 243], [], [], [], [218, 221, 30, 220, 3], [], [], [], [], [245, 248, 36, 246, 247], [250, 253, 30, 252, 4], [], []]
def zu_69 : List (List Nat) := [[], [], [210, 213, 30, 212, 1], [], [], [], [], [], [], [237, 240, 36, 238, 239], [], [], [], [218, 221, 30, 220, 3], [], [], [266, 269, 36, 267, 268], [], []]
def zu_70 : List (List Nat) := [[], [], [], [274, 277, 30, 276, 5], [], [], [], [214, 217, 30, 216, 2], []]
def zu_71 : List (List Nat) := [[], [], [274, 277, 30, 276, 5], [], [], [], [], [], [], [237, 240, 36, 238, 239], [], [], [], [218, 221, 30, 220, 3], [], [], [], [241, 244, 36, 242, 243], [], [], [], [218, 221, 30, 220, 3], [], [], [], [245, 248, 36, 246, 247], [], [], [], [], [], [254, 257, 36, 255, 256], [], [], [], []]
def zu_72 : List (List Nat) := [[], [], [274, 277, 30, 276, 5], [], [], [], [], [], [], [237, 240, 36, 238, 239], [], [], [], [218, 221, 30, 220, 3], [], [278], [], [], [50], [], [52, 54, 31, 53], [280, 282, 38, 281], [294, 297, 38, 295, 296], []]
def zu_73 : List (List Nat) := [[], [], [274, 277, 30, 276, 5], [], [], [], [], [], [], [237, 240, 36, 238, 239], [], [], [], [218, 221, 30, 220, 3], [], [50], [], [52, 54, 31, 53], [], [278], [], [], [], [280, 282, 38, 281], [294, 297, 38, 295, 296], [], [], [], [], [], [], [171], [], [172], [], [338, 99, 32, 97, 98], [], [174], [], [172], [339, 342, 35, 340, 341], [], [], [], [], [175], [], [], [], [175], [], [], [347, 350, 35, 348, 349], [], [], [], [63], []]
def zu_74 : List (List Nat) := [[], [171], [], [364, 367, 31, 365, 366], [], [], [], [], [], [], [], [], [], [], [172], [], [], [712, 715, 32, 713, 714], [250, 253, 30, 252, 4], [], []]
def zu_75 : List (List Nat) := [[], [171], [], [355, 121, 31, 119, 120], [], [], [], [], [], [], [], [], [], [], [172], [], [], [356, 359, 32, 357, 358], [250, 253, 30, 252, 4], [], []]
def zu_76 : List (List Nat) := [[], [171], [], [364, 367, 31, 365, 366], [], [], [171], [], [355, 121, 31, 119, 120], [], [], [], [], [172], [], [764, 556, 32, 554, 555], [], [], [], [], [174], [], [372, 375, 35, 373, 374], [], [], [], [], [172], [], [], [376, 117, 32, 115, 116], [], [174], [], [172], [377, 380, 35, 378, 379], [], []]
def zu_77 : List (List Nat) := [[], [171], [], [364, 367, 31, 365, 366], [], [], [], [], [172], [], [368, 371, 32, 369, 370], [], [], [], [], [174], [], [372, 375, 35, 373, 374], [], [], [], [], [172], [124], [], [], [], [], [172], [], [], [376, 117, 32, 115, 116], [], [174], [], [172], [377, 380, 35, 378, 379], [], []]
def zu_78 : List (List Nat) := [[], [171], [], [364, 367, 31, 365, 366], [], [], [171], [], [364, 367, 31, 365, 366], [], [], [], [], [], [], [], [172], [], [368, 371, 32, 369, 370], [], [], [172], [], [368, 371, 32, 369, 370], [], [], [], [], [174], [], [372, 375, 35, 373, 374], [], [], [], [], [172], [], [], [386, 389, 32, 387, 388], [], [174], [], [172], [377, 380, 35, 378, 379], [], []]
def zu_79 : List (List Nat) := [[], [171], [], [364, 367, 31, 365, 366], [], [], [], [], [], [], [], [], [], [], [172], [127], [], [], [], [], [], [], [], [], [], [174], [], [372, 375, 35, 373, 374], [], [], [], [], [172], [127], [], [], [], [], [174], [], [172], [377, 380, 35, 378, 379], [], []]
def zu_80 : List (List Nat) := [[], [398, 400, 30, 399], [], [], [], [], [171], [63], [], [], [], [], [174], [], [372, 375, 35, 373, 374], [], [], [], [], [], [401, 404, 30, 403, 11], []]
def zu_81 : List (List Nat) := [[], [], [], [], [174], [148], [], [], [], [], [174], [148], [], [], [], [], [174], [], [], [172], [443, 446, 35, 444, 445], [], []]
def zu_82 : List (List Nat) := [[], [], [455, 458, 30, 457, 13], [], [], [], [], [171], [63], [], [], [], [], [175], [], [], [], [174], [459, 462, 35, 460, 461], [], [174], [148], []]
def zu_83 : List (List Nat) := [[], [], [455, 458, 30, 457, 13], [], [], [], [], [175], [], [], [468, 471, 35, 469, 470], [], [], [], [218, 221, 30, 220, 3], [], [], [174], [], [175], [], [], [459, 462, 35, 460, 461], [], [174], [], [174], [148], [], [172], [443, 446, 35, 444, 445], [], [174], [148], []]
def zu_84 : List (List Nat) := [[], [171], [], [364, 367, 31, 365, 366], [], [], [398, 400, 30, 399], [], [], [], [], [172], [], [], [476, 479, 32, 477, 478], []]
def zu_85 : List (List Nat) := [[], [171], [], [364, 367, 31, 365, 366], [], [], [398, 400, 30, 399], [], [], [], [], [172], [], [], [489, 412, 32, 410, 411], []]
def zu_86 : List (List Nat) := [[], [398, 400, 30, 399], [], [], [], [], [], [172], [], [494, 497, 32, 495, 496], [250, 253, 30, 252, 4], [], [172], [], [498, 501, 32, 499, 500], []]
def zu_87 : List (List Nat) := [[], [398, 400, 30, 399], [], [], [], [], [], [], [], [], [], [], [], [171], [63], [], [], [172], [], [], [489, 412, 32, 410, 411], [], [], [172], [], [], [506, 416, 32, 414, 415], [], [], [], [], [], [], [], [], [], [], [], [], [], [], [], [250, 253, 30, 252, 4], [], []]
def zu_88 : List (List Nat) := [[], [171], [], [364, 367, 31, 365, 366], [], [], [398, 400, 30, 399], [], [], [], [], [172], [], [], [506, 416, 32, 414, 415], [], [], [], [], [172], [], [], [476, 479, 32, 477, 478], [], [], [], [], [], [], [], [], [], [171], [63], [], [], [], [], [], [], [], [], [], [172], [], [], [489, 412, 32, 410, 411], [], [], [], [], [511, 514, 30, 513, 15], [], [], [], [], [], [], [], [], [], [], [], [], [], [], [], [], [250, 253, 30, 252, 4], [], []]
def zu_89 : List (List Nat) := [[], [398, 400, 30, 399], [], [], [], [], [], [], [210, 213, 30, 212, 1], [523, 526, 30, 525, 16], [], [], []]
def zu_90 : List (List Nat) := [[], [398, 400, 30, 399], [], [], [], [], [], [], [210, 213, 30, 212, 1], [523, 526, 30, 525, 16], [], [], []]
def zu_91 : List (List Nat) := [[], [], [], [], [], [210, 213, 30, 212, 1], [523, 526, 30, 525, 16], []]
def zu_92 : List (List Nat) := [[], [], [210, 213, 30, 212, 1], [], [], [], [], [398, 400, 30, 399], [], [], [], [], [171], [63], [], [], [], [], [237, 240, 36, 238, 239], [], [], [], [218, 221, 30, 220, 3], [], [], [163], [], [171], [63], [], [], [], [218, 221, 30, 220, 3], [], [], [173], [], [172], [515, 518, 32, 516, 517], [], [173], [], [569, 572, 32, 570, 571], [], [], [], [218, 221, 30, 220, 3], [], [], [173], [], [498, 501, 32, 499, 500], []]
def zu_93 : List (List Nat) := [[], [171], [], [364, 367, 31, 365, 366], [], [], [171], [], [364, 367, 31, 365, 366], [], [], [], [], [], [398, 400, 30, 399], [], [], [], [], [173], [], [172], [515, 518, 32, 516, 517], [], [173], [], [], [386, 389, 32, 387, 388], [], [], [172], [], [498, 501, 32, 499, 500], [], [], [173], [], [498, 501, 32, 499, 500], [], []]
def zu_94 : List (List Nat) := [[], [398, 400, 30, 399], [], [], [], [], [], [582, 585, 30, 584, 20], [], [], [], [250, 253, 30, 252, 4], [], [], [], [], [], [], []]
def zu_95 : List (List Nat) := [[], [171], [63], [], [], [], [], [], [], [528, 531, 30, 530, 17], [], [171], [533, 536, 31, 534, 535], [], [], [], [], [], [173], [594, 597, 32, 595, 596], [598, 230, 37, 231], [], [], [173], [545, 548, 32, 546, 547], [], [], [], [], [250, 253, 30, 252, 4], [], [172], [594, 597, 32, 595, 596], []]
def zu_96 : List (List Nat) := [[], [171], [], [364, 367, 31, 365, 366], [], [], [398, 400, 30, 399], [], [], [], [], [], [527], [], [], [173], [], [172], [515, 518, 32, 516, 517], [], [], [], [], [], [], [173], [127], [], [], [], [], [173], [], [498, 501, 32, 499, 500], [], [], [], [], [], [], [], [], [], [], [], [], [250, 253, 30, 252, 4], [], []]
def zu_97 : List (List Nat) := [[], [], [210, 213, 30, 212, 1], [], [], [], [], [398, 400, 30, 399], [], [], [], [], [171], [63], [], [], [], [], [173], [], [172], [515, 518, 32, 516, 517], [], [173], [], [494, 497, 32, 495, 496], [], [], [], [], [222, 225, 36, 223, 224], [], [], [], [], [], [], [], [], [173], [], [607, 610, 32, 608, 609], [], [], [171], [], [364, 367, 31, 365, 366], [], [], [], [], [173], [], [], [616, 619, 32, 617, 618], [], [], [], [], [], [254, 257, 36, 255, 256], [], [173], [], [], [376, 117, 32, 115, 116], [], [], [], []]
def zu_98 : List (List Nat) := [[], [], [210, 213, 30, 212, 1], [], [], [], [], [], [], [171], [63], [], [], [], [], [237, 240, 36, 238, 239], [], [], [], [218, 221, 30, 220, 3], [], [], [163], [], [], [], [], [], [218, 221, 30, 220, 3], [], [], [], [], [], [163], [], [], [], [245, 248, 36, 246, 247], [398, 400, 30, 399], [], [], [], [218, 221, 30, 220, 3], [], [], [], [], [], [624, 627, 30, 626, 23], [], []]
def zu_99 : List (List Nat) := [[], [398, 400, 30, 399], [], [], [], [], [171], [63], [], [], [], [], [], [], [528, 531, 30, 530, 17], [], [171], [533, 536, 31, 534, 535], [], [], [], [], [], [173], [], [498, 501, 32, 499, 500], [], [], [], [], [173], [545, 548, 32, 546, 547], [], [], [], [], [], [171], [533, 536, 31, 534, 535], [], [640, 643, 30, 642, 26], [], []]
def zu_100 : List (List Nat) := [[], [], [], [], [], [], [], [], [], [], [], [657], [], [], [], [], [], [171], [63], [], [], [], [], [174], [], [372, 375, 35, 373, 374], [], [], [], [], [], [], [], [], [], [], [], [], [], [], [658], [], [657], [], [], [], [], [], [659], [], [660], [], [], [401, 404, 30, 403, 11], [], [], [], [], [], []]
def zu_101 : List (List Nat) := [[], [176], []]
def zu_102 : List (List Nat) := [[], [177], []]
def zu_103 : List (List Nat) := [[], [178], []]
def zu_104 : List (List Nat) := [[], [], [], [], [], [], [], [], [], [677, 680, 30, 679, 27], []]
def zu_105 : List (List Nat) := [[710], [], [], [], [], [], [], [711], [], [], [], [], [677, 680, 30, 679, 27], [], [], [], [], [], [], [], [], [], [171], [59], [], [], [], [], [], [], [711], [], [], [], [172], [], [], [356, 359, 32, 357, 358], [], [], [], [], [], [], [], [], [], [], [], [171], [63], [], [], [], [], [], [], [711], [], [], [], [172], [], [], [712, 715, 32, 713, 714], [], [], [], [], [], [], [], [], [], [], [], [175], [], [], [711], [], [], [], [175], [], [], [148], [], [], [], [], [], [], [], [], [], [169], [], [], [], [169], [], [], [], [716, 719, 36, 717, 718], [], [], [], [], [], [], [], [170], [], [], [], [170], [], [], [], [716, 719, 36, 717, 718], [], [], [], [], []]
def zu_106 : List (List Nat) := [[], [], [], [], [169], [], [], [], [169], [], [], [], [], []]
def zu_107 : List (List Nat) := [[], [], [], [], [170], [], [], [], [170], [], [], [], [], []]
def zu_108 : List (List Nat) := [[], [], [], [], [], [], [], [], []]
def zu_109 : List (List Nat) := [[], [], [], [], [175], [], [], [], [], [], []]
def zu_110 : List (List Nat) := [[], [], [], [], [], [], [], [180], [], [], [], [], [], [], [], [], [179], [], []]
def zu_111 : List (List Nat) := [[], [], [176], []]
def zu_112 : List (List Nat) := [[], [], [], [644, 646, 30, 645], [650, 651, 37, 652], [], [], [], [], [], [177], [], [], [], [], [178], []]
def zu_113 : List (List Nat) := [[], [], [], [], [], [], [], [], [], [], [], [], [], [], [], [], [], [], [], [], [], [], [], [], [647, 648, 37, 649], []]
def zu_114 : List (List Nat) := [[], [], [], [], [], [], [], [], [], [], [], [218, 221, 30, 220, 3], [], [], [], [], [222, 225, 36, 223, 224], [], []]
def zu_115 : List (List Nat) := [[], [172], [], [405, 408, 32, 406, 407], [], [], [174], [], [172], [377, 380, 35, 378, 379], [], []]
def zu_116 : List (List Nat) := [[], [173], [], [172], [515, 518, 32, 516, 517], [], [173], [], [], [376, 117, 32, 115, 116], [], [173], [], [], [489, 412, 32, 410, 411], []]
def zu_117 : List (List Nat) := [[], [173], [], [172], [515, 518, 32, 516, 517], [], [173], [532, 109, 32, 107, 108], []]
def zu_118 : List (List Nat) := [[], [], [], [], [], [171], [63], [], [], [], [], [], [171], [63], [], [222, 225, 36, 223, 224], [527], [], [], [528, 531, 30, 530, 17], [], [171], [533, 536, 31, 534, 535], [], [], [], [], [], [], [537, 540, 30, 539, 18], [], [], [], [], [], [], [], [], [], [], [171], [63], [], [], [], [], [173], [124], [], [], [254, 257, 36, 255, 256], [], [], [], [173], [545, 548, 32, 546, 547], [], [], [], []]
def zu_119 : List (List Nat) := [[], [], [], [173], [], [498, 501, 32, 499, 500], [], [], [173], [], [541, 544, 32, 542, 543], [], [], [173], [], [498, 501, 32, 499, 500], [], [173], [], [498, 501, 32, 499, 500], [], []]
def zu_120 : List (List Nat) := [[], [], [], [], [171], [63], [], [], [], [], [], [], [], [171], [63], [], [], [], [], [], [586, 589, 30, 588, 21], [], [], [], [], [], [], [], [], [], [], [], [], []]
def zu_121 : List (List Nat) := [[], [172], [], [], [506, 416, 32, 414, 415], [], [], [172], [], [], [506, 416, 32, 414, 415], [], [], [], [], [173], [], [172], [515, 518, 32, 516, 517], [], [173], [], [], [386, 389, 32, 387, 388], [], [173], [], [], [489, 412, 32, 410, 411], [], [172], [], [], [489, 412, 32, 410, 411], [], [], [173], [], [], [489, 412, 32, 410, 411], [], [172], [], [], [489, 412, 32, 410, 411], [], [], [], [], []]
def zu_122 : List (List Nat) := [[], [], [], [], [], [528, 531, 30, 530, 17], [], [171], [533, 536, 31, 534, 535], [], [], [], [], [], [628, 631, 30, 630, 24], [], [], [173], [124], [], [], [], [], [], [], [], [], [], [], [], [], [], [], [173], [545, 548, 32, 546, 547], [], [], [], [], [], [177], [], [], [178], [], [], [250, 253, 30, 252, 4], []]
def zu_123 : List (List Nat) := [[], [], [], [], [], [], [], [], [632, 635, 30, 634, 25], [], [], [], [], [], [], []]
def zu_124 : List (List Nat) := [[], [], [], [], [], [], [163], [], [], [], [245, 248, 36, 246, 247], [], [], [], [], [], [], [], [173], [], [498, 501, 32, 499, 500], [], [], [], [], [], [], [245, 248, 36, 246, 247], [], [], [], [], [], [], []]
def zu_125 : List (List Nat) := [[], [], [], [171], [63], [], [], [171], [59], [], [], [174], [148], [], [], [172], [], [494, 497, 32, 495, 496], [], [], [172], [681, 684, 32, 682, 683], [], [], [171], [], [685, 688, 31, 686, 687], [693, 695, 39, 694], [], [], [169], [699, 701, 30, 700], [], [], [170], [699, 701, 30, 700], [], [], [702, 705, 30, 704, 28], []]
def zu_126 : List (List Nat) := [[], [], [], [], [], [], [], [], [], [], [], [237, 240, 36, 238, 239], [], [], [], [], [], []]
def zu_127 : List (List Nat) := [[], [], [], [], [], [], [175], [], [], [], [175], [], [], [468, 471, 35, 469, 470], [], [], [], [], [], []]
def zu_128 : List (List Nat) := [[], [], [], [], [696], [], [], [], [], [697], [], [], [], [], [697], [], [], [], [], [], [], [], [], [698], [], [], [], [], [], [], [], [], [], [], [], [], [], [], [], [], [], []]
def zu_129 : List (List Nat) := [[], [], [], [], [], [], [], [], [], [], [], [], [], [], []]
def zu_130 : List (List Nat) := [[], [], [], [], [], [], [], [], [725], [], [], [], [], []]
def zu_131 : List (List Nat) := [[], [729], [], [], [], []]
def zu_132 : List (List Nat) := [[], [], [], [], [], [], [], [], [], [], [], [], [], [], [], [], [], [], [], [], [], [], [], [], [], []]
def zu_133 : List (List Nat) := [[], [], [], [], [], [], [], [], [], [], [], [], [], [], [], [], [], [], [], [], []]
def zu_134_0 : List (List Nat) := [[], [], [722, 724, 29, 723], [], [], [], [], [], [], [726, 728, 29, 727], [], [], [], [], [], [], [], [], [], [], [], [], [], [], [], [], [], [], [726, 728, 29, 727], [], [], [], [], [], [733, 736, 30, 734, 735], [], [], [], [], [], [], [737, 740, 30, 738, 739], [], [], [], [], [], []]
def zu_134_1 : List (List Nat) := [[], [], [], [], [], [], [], [], [], [], [], [], [], [], [], [], [], [], [], [], [], [], [], [], [], [], [], [726, 728, 29, 727], [], [], [], [], [], [], [], [], [], [], [], [], [], [741, 743, 29, 742], [737, 740, 30, 738, 739], [], [], [], [], []]
def zu_134_2 : List (List Nat) := [[], [], [], [], [], [], [], [], [], [], [], [], [], [], [], [], [], [], [], [], [], [], [], [], [], [], [], [], [], [], [], [], [], [], [], [], [], [], [722, 724, 29, 723], [], [], [], [], [], [], [], [726, 728, 29, 727], []]
def zu_134_3 : List (List Nat) := [[], [], [], [], [], [], [], [], [], [726, 728, 29, 727], [], [], [], [], [], [], [], [], [], [], [], [], [], [], [], [], [], [], [], [], [], [], [], [], [], [], [], [], [], [], [], [], [], [], [], [], [744, 746, 29, 745], [737, 740, 30, 738, 739]]
def zu_134_4 : List (List Nat) := [[], [], [], [], [], [], [], [], [], [], [], [], [], [], [], [], [737, 740, 30, 738, 739], [], [], [], [], [], [], [], [], [], [], [], [], [], [], [], [], [737, 740, 30, 738, 739], [], [], [], [], [], [], [], [], [], [], [], [], [], []]
def zu_134_5 : List (List Nat) := [[], [], [737, 740, 30, 738, 739], [], [], [], [], [], [], [], [], [], [], [], [], [747, 750, 30, 748, 749], [], [], [], [], [270, 273, 30, 271, 272], [], [], [], [], [], [], [], []]
def zu_134 : List (List Nat) := zu_134_0 ++ (zu_134_1 ++ (zu_134_2 ++ (zu_134_3 ++ (zu_134_4 ++ (zu_134_5)))))
def zu_135 : List (List Nat) := [[], [], [], [], [], [], [], [], [], [], [], [], [], [], [], [], [], [], []]
def zu_136 : List (List Nat) := [[], [], [], [], [], [], [], [], [], [], [], [], [], [], [], [], [], [], [], []]
def zu_137_0 : List (List Nat) := [[], [], [], [], [726, 728, 29, 727], [], [], [], [], [], [], [], [726, 728, 29, 727], [], [], [], [], [], [], [], [726, 728, 29, 727], [], [], [], [], [], [], [], [], [], [], [], [757, 759, 29, 758], [], [], [], [], [], [], [], [], [], [], [], [], [], [], []]
def zu_137_1 : List (List Nat) := [[], [], [], [760, 763, 30, 761, 762], [], [], [], [], [], [], [], [], [], [], [], [], [], [], [], [], [], [], [], [], [], [], [], [], [], [], [], [], [], [], [], [], [], [], [], [], [], [], [], [], [], [], [], []]
def zu_137_2 : List (List Nat) := [[], [], [], [], [], [], [], [], [], [], [], [], [], [], [], [], [], [], [382, 385, 30, 383, 384], [], [], [], [], [], [], [], [], [], [], [], [], [], [], [], [], [], [], [], [], [], [], [], [], [], [], [], [], []]
def zu_137_3 : List (List Nat) := [[], [], [], [], [360, 363, 30, 361, 362], [], [], [], [], [], [], [], [], [], [], [], [], [], [], [], [726, 728, 29, 727], [], [], [], [], [], [], [], [], [], [], [], [], [], [], [], [], [], [], [], [390, 393, 30, 391, 392], [], [], [], [], [], [], []]
def zu_137_4 : List (List Nat) := [[], [], [], []]
def zu_137 : List (List Nat) := zu_137_0 ++ (zu_137_1 ++ (zu_137_2 ++ (zu_137_3 ++ (zu_137_4))))
def zu_138 : List (List Nat) := [[], [], [], [768, 771, 30, 769, 770], [], [], [], [661, 664, 30, 662, 663], [], [], []]
def zus : List (List (List Nat)) := [zu_0, zu_1, zu_2, zu_3, zu_4, zu_5, zu_6, zu_7, zu_8, zu_9, zu_10, zu_11, zu_12, zu_13, zu_14, zu_15, zu_16, zu_17, zu_18, zu_19, zu_20, zu_21, zu_22, zu_23, zu_24, zu_25, zu_26, zu_27, zu_28, zu_29, zu_30, zu_31, zu_32, zu_33, zu_34, zu_35, zu_36, zu_37, zu_38, zu_39, zu_40, zu_41, zu_42, zu_43, zu_44, zu_45, zu_46, zu_47, zu_48, zu_49, zu_50, zu_51, zu_52, zu_53, zu_54, zu_55, zu_56, zu_57, zu_58, zu_59, zu_60, zu_61, zu_62, zu_63, zu_64, zu_65, zu_66, zu_67, zu_68, zu_69, zu_70, zu_71, zu_72, zu_73, zu_74, zu_75, zu_76, zu_77, zu_78, zu_79, zu_80, zu_81, zu_82, zu_83, zu_84, zu_85, zu_86, zu_87, zu_88, zu_89, zu_90, zu_91, zu_92, zu_93, zu_94, zu_95, zu_96, zu_97, zu_98, zu_99, zu_100, zu_101, zu_102, zu_103, zu_104, zu_105, zu_106, zu_107, zu_108, zu_109, zu_110, zu_111, zu_112, zu_113, zu_114, zu_115, zu_116, zu_117, zu_118, zu_119, zu_120, zu_121, zu_122, zu_123, zu_124, zu_125, zu_126, zu_127, zu_128, zu_129, zu_130, zu_131, zu_132, zu_133, zu_134, zu_135, zu_136, zu_137, zu_138]
end
section
/-! every method's code is checked -/
theorem zchk_app {mi : Nat} : ∀ {l1 l2 : List zI} {u1 u2 : List (List Nat)}, u1.length = l1.length → zchk mi true l1 u1 = true → zchk mi true l2 u2 = true → zchk mi true (l1 ++ l2) (u1 ++ u2) = true
  | [], _, [], _, _, _, h => h
  | [], _, _ :: _, _, hl, _, _ => by simp at hl
  | _ :: _, _, [], _, hl, _, _ => by simp at hl
  | e :: l, l2, u :: us, u2, hl, h1, h2 => by
    simp only [zchk, Bool.and_eq_true, List.cons_append, List.headD_cons, List.tail_cons] at h1 ⊢
    exact ⟨h1.1, zchk_app (by simpa using hl) h1.2 h2⟩
theorem zck_0_0 : zchk 0 true z_L_law_0 zu_0_0 = true := by decide +kernel
theorem zck_0_1 : zchk 0 true z_L_law_1 zu_0_1 = true := by decide +kernel
theorem zck_0_2 : zchk 0 true z_L_law_2 zu_0_2 = true := by decide +kernel
theorem zck_0_3 : zchk 0 true z_L_law_3 zu_0_3 = true := by decide +kernel
theorem zck_0_4 : zchk 0 true z_L_law_4 zu_0_4 = true := by decide +kernel
theorem zck_0_5 : zchk 0 true z_L_law_5 zu_0_5 = true := by decide +kernel
theorem zck_0_6 : zchk 0 true z_L_law_6 zu_0_6 = true := by decide +kernel
theorem zck_0_7 : zchk 0 true z_L_law_7 zu_0_7 = true := by decide +kernel
theorem zck_0_8 : zchk 0 true z_L_law_8 zu_0_8 = true := by decide +kernel
theorem zck_0_9 : zchk 0 true z_L_law_9 zu_0_9 = true := by decide +kernel
theorem zck_0_10 : zchk 0 true z_L_law_10 zu_0_10 = true := by decide +kernel
theorem zck_0_11 : zchk 0 true z_L_law_11 zu_0_11 = true := by decide +kernel
theorem zck_0_12 : zchk 0 true z_L_law_12 zu_0_12 = true := by decide +kernel
theorem zck_0_13 : zchk 0 true z_L_law_13 zu_0_13 = true := by decide +kernel
theorem zck_0_14 : zchk 0 true z_L_law_14 zu_0_14 = true := by decide +kernel
theorem zck_0_15 : zchk 0 true z_L_law_15 zu_0_15 = true := by decide +kernel
theorem zck_0_16 : zchk 0 true z_L_law_16 zu_0_16 = true := by decide +kernel
theorem zck_0_17 : zchk 0 true z_L_law_17 zu_0_17 = true := by decide +kernel
theorem zck_0_18 : zchk 0 true z_L_law_18 zu_0_18 = true := by decide +kernel
theorem zck_0_19 : zchk 0 true z_L_law_19 zu_0_19 = true := by decide +kernel
theorem zck_0_20 : zchk 0 true z_L_law_20 zu_0_20 = true := by decide +kernel
theorem zck_0_21 : zchk 0 true z_L_law_21 zu_0_21 = true := by decide +kernel
theorem zck_0_22 : zchk 0 true z_L_law_22 zu_0_22 = true := by decide +kernel
theorem zck_0_23 : zchk 0 true z_L_law_23 zu_0_23 = true := by decide +kernel
theorem zck_0_24 : zchk 0 true z_L_law_24 zu_0_24 = true := by decide +kernel
theorem zck_0_25 : zchk 0 true z_L_law_25 zu_0_25 = true := by decide +kernel
theorem zck_0 : zchk 0 true z_L_law zu_0 = true := zchk_app rfl zck_0_0 (zchk_app rfl zck_0_1 (zchk_app rfl zck_0_2 (zchk_app rfl zck_0_3 (zchk_app rfl zck_0_4 (zchk_app rfl zck_0_5 (zchk_app rfl zck_0_6 (zchk_app rfl zck_0_7 (zchk_app rfl zck_0_8 (zchk_app rfl zck_0_9 (zchk_app rfl zck_0_10 (zchk_app rfl zck_0_11 (zchk_app rfl zck_0_12 (zchk_app rfl zck_0_13 (zchk_app rfl zck_0_14 (zchk_app rfl zck_0_15 (zchk_app rfl zck_0_16 (zchk_app rfl zck_0_17 (zchk_app rfl zck_0_18 (zchk_app rfl zck_0_19 (zchk_app rfl zck_0_20 (zchk_app rfl zck_0_21 (zchk_app rfl zck_0_22 (zchk_app rfl zck_0_23 (zchk_app rfl zck_0_24 (zck_0_25)))))))))))))))))))))))))
theorem zck_1 : zchk 1 true z_X0_init zu_1 = true := by decide +kernel
theorem zck_2 : zchk 2 true z_X0_begin zu_2 = true := by decide +kernel
theorem zck_3 : zchk 3 true z_X0_copyFrom zu_3 = true := by decide +kernel
theorem zck_4 : zchk 4 true z_X0_manDetail zu_4 = true := by decide +kernel
theorem zck_5 : zchk 5 true z_X0_hookDetail zu_5 = true := by decide +kernel
theorem zck_6 : zchk 6 true z_X0_tiredTogether zu_6 = true := by decide +kernel
theorem zck_7 : zchk 7 true z_X0_writeTo zu_7 = true := by decide +kernel
theorem zck_8 : zchk 8 true z_X0_readFrom zu_8 = true := by decide +kernel
theorem zck_9 : zchk 9 true z_X0_isFree zu_9 = true := by decide +kernel
theorem zck_10 : zchk 10 true z_X0_hangs zu_10 = true := by decide +kernel
theorem zck_11 : zchk 11 true z_X0_move zu_11 = true := by decide +kernel
theorem zck_12 : zchk 12 true z_X0_swap zu_12 = true := by decide +kernel
theorem zck_13 : zchk 13 true z_X0_takeAllDown zu_13 = true := by decide +kernel
theorem zck_14 : zchk 14 true z_X0_hangBy zu_14 = true := by decide +kernel
theorem zck_15 : zchk 15 true z_X0_hangByFirstPlan zu_15 = true := by decide +kernel
theorem zck_16 : zchk 16 true z_X0_hangByNextPlan zu_16 = true := by decide +kernel
theorem zck_17 : zchk 17 true z_X0_moveOn zu_17 = true := by decide +kernel
theorem zck_18 : zchk 18 true z_X0_messmatePairs zu_18 = true := by decide +kernel
theorem zck_19 : zchk 19 true z_X0_isIn zu_19 = true := by decide +kernel
theorem zck_20 : zchk 20 true z_X0_howManyIn zu_20 = true := by decide +kernel
theorem zck_21 : zchk 21 true z_X0_bitOfWhoIsInAt zu_21 = true := by decide +kernel
theorem zck_22 : zchk 22 true z_X0_neighbourBits zu_22 = true := by decide +kernel
theorem zck_23 : zchk 23 true z_X0_wakings zu_23 = true := by decide +kernel
theorem zck_24 : zchk 24 true z_X0_wakingsFrom zu_24 = true := by decide +kernel
theorem zck_25 : zchk 25 true z_X0_allWakings zu_25 = true := by decide +kernel
theorem zck_26 : zchk 26 true z_X0_mostWakings zu_26 = true := by decide +kernel
theorem zck_27 : zchk 27 true z_X0_tire zu_27 = true := by decide +kernel
theorem zck_28 : zchk 28 true z_X0_inTheWayOf zu_28 = true := by decide +kernel
theorem zck_29 : zchk 29 true z_X0_firstToGetUp zu_29 = true := by decide +kernel
theorem zck_30 : zchk 30 true z_X0_hasBulkierNeighbour zu_30 = true := by decide +kernel
theorem zck_31 : zchk 31 true z_X1_init zu_31 = true := by decide +kernel
theorem zck_32 : zchk 32 true z_X1_hasHook zu_32 = true := by decide +kernel
theorem zck_33 : zchk 33 true z_X1_hasMan zu_33 = true := by decide +kernel
theorem zck_34 : zchk 34 true z_X1_addHook zu_34 = true := by decide +kernel
theorem zck_35 : zchk 35 true z_X1_addMan zu_35 = true := by decide +kernel
theorem zck_36 : zchk 36 true z_X1_mostMen zu_36 = true := by decide +kernel
theorem zck_37 : zchk 37 true z_X1_planCount zu_37 = true := by decide +kernel
theorem zck_38 : zchk 38 true z_X1_isOf zu_38 = true := by decide +kernel
theorem zck_39 : zchk 39 true z_X1_bitsOf zu_39 = true := by decide +kernel
theorem zck_40 : zchk 40 true z_X1_bulk zu_40 = true := by decide +kernel
theorem zck_41 : zchk 41 true z_X1_placeWakes zu_41 = true := by decide +kernel
theorem zck_42 : zchk 42 true z_X2_init zu_42 = true := by decide +kernel
theorem zck_43 : zchk 43 true z_X2_isMissing zu_43 = true := by decide +kernel
theorem zck_44 : zchk 44 true z_X2_hasRoomFor zu_44 = true := by decide +kernel
theorem zck_45 : zchk 45 true z_X2_begin zu_45 = true := by decide +kernel
theorem zck_46 : zchk 46 true z_X2_add zu_46 = true := by decide +kernel
theorem zck_47 : zchk 47 true z_X2_discard zu_47 = true := by decide +kernel
theorem zck_48 : zchk 48 true z_X2_copyFrom zu_48 = true := by decide +kernel
theorem zck_49 : zchk 49 true z_X2_goBackTo zu_49 = true := by decide +kernel
theorem zck_50 : zchk 50 true z_X3_init zu_50 = true := by decide +kernel
theorem zck_51 : zchk 51 true z_X3_read zu_51 = true := by decide +kernel
theorem zck_52 : zchk 52 true z_X3_skipBlanks zu_52 = true := by decide +kernel
theorem zck_53 : zchk 53 true z_X3_readHooks zu_53 = true := by decide +kernel
theorem zck_54 : zchk 54 true z_X3_readMan zu_54 = true := by decide +kernel
theorem zck_55 : zchk 55 true z_X3_letterIn zu_55 = true := by decide +kernel
theorem zck_56 : zchk 56 true z_X3_readFigure zu_56 = true := by decide +kernel
theorem zck_57 : zchk 57 true z_X4_init zu_57 = true := by decide +kernel
theorem zck_58 : zchk 58 true z_X4_isMissing zu_58 = true := by decide +kernel
theorem zck_59 : zchk 59 true z_X4_has zu_59 = true := by decide +kernel
theorem zck_60 : zchk 60 true z_X4_get zu_60 = true := by decide +kernel
theorem zck_61 : zchk 61 true z_X4_set zu_61 = true := by decide +kernel
theorem zck_62 : zchk 62 true z_X4_renew zu_62 = true := by decide +kernel
theorem zck_63 : zchk 63 true z_X4_discard zu_63 = true := by decide +kernel
theorem zck_64 : zchk 64 true z_X4_digestedOnto zu_64 = true := by decide +kernel
theorem zck_65 : zchk 65 true z_X5_init zu_65 = true := by decide +kernel
theorem zck_66 : zchk 66 true z_X5_row zu_66 = true := by decide +kernel
theorem zck_67 : zchk 67 true z_X5_lay zu_67 = true := by decide +kernel
theorem zck_68 : zchk 68 true z_X5_at zu_68 = true := by decide +kernel
theorem zck_69 : zchk 69 true z_X5_tear zu_69 = true := by decide +kernel
theorem zck_70 : zchk 70 true z_X5_text zu_70 = true := by decide +kernel
theorem zck_71 : zchk 71 true z_X5_put zu_71 = true := by decide +kernel
theorem zck_72 : zchk 72 true z_X5_fault zu_72 = true := by decide +kernel
theorem zck_73 : zchk 73 true z_X5_deck zu_73 = true := by decide +kernel
theorem zck_74 : zchk 74 true z_X5_man zu_74 = true := by decide +kernel
theorem zck_75 : zchk 75 true z_X5_hook zu_75 = true := by decide +kernel
theorem zck_76 : zchk 76 true z_X5_hang zu_76 = true := by decide +kernel
theorem zck_77 : zchk 77 true z_X5_down zu_77 = true := by decide +kernel
theorem zck_78 : zchk 78 true z_X5_change zu_78 = true := by decide +kernel
theorem zck_79 : zchk 79 true z_X5_line zu_79 = true := by decide +kernel
theorem zck_80 : zchk 80 true z_X5_night zu_80 = true := by decide +kernel
theorem zck_81 : zchk 81 true z_X5_undo zu_81 = true := by decide +kernel
theorem zck_82 : zchk 82 true z_X5_keep zu_82 = true := by decide +kernel
theorem zck_83 : zchk 83 true z_X5_on zu_83 = true := by decide +kernel
theorem zck_84 : zchk 84 true z_X5_neighbours zu_84 = true := by decide +kernel
theorem zck_85 : zchk 85 true z_X5_woken zu_85 = true := by decide +kernel
theorem zck_86 : zchk 86 true z_X5_all zu_86 = true := by decide +kernel
theorem zck_87 : zchk 87 true z_X5_worst zu_87 = true := by decide +kernel
theorem zck_88 : zchk 88 true z_X5_by zu_88 = true := by decide +kernel
theorem zck_89 : zchk 89 true z_X5_best zu_89 = true := by decide +kernel
theorem zck_90 : zchk 90 true z_X5_fair zu_90 = true := by decide +kernel
theorem zck_91 : zchk 91 true z_X5_mixed zu_91 = true := by decide +kernel
theorem zck_92 : zchk 92 true z_X5_judge zu_92 = true := by decide +kernel
theorem zck_93 : zchk 93 true z_X5_gain zu_93 = true := by decide +kernel
theorem zck_94 : zchk 94 true z_X5_calm zu_94 = true := by decide +kernel
theorem zck_95 : zchk 95 true z_X5_mates zu_95 = true := by decide +kernel
theorem zck_96 : zchk 96 true z_X5_cut zu_96 = true := by decide +kernel
theorem zck_97 : zchk 97 true z_X5_up zu_97 = true := by decide +kernel
theorem zck_98 : zchk 98 true z_X5_fits zu_98 = true := by decide +kernel
theorem zck_99 : zchk 99 true z_X5_mid zu_99 = true := by decide +kernel
theorem zck_100 : zchk 100 true z_X5_lots zu_100 = true := by decide +kernel
theorem zck_101 : zchk 101 true z_X5_asked zu_101 = true := by decide +kernel
theorem zck_102 : zchk 102 true z_X5_upper zu_102 = true := by decide +kernel
theorem zck_103 : zchk 103 true z_X5_lower zu_103 = true := by decide +kernel
theorem zck_104 : zchk 104 true z_X5_count zu_104 = true := by decide +kernel
theorem zck_105 : zchk 105 true z_X5_digest zu_105 = true := by decide +kernel
theorem zck_106 : zchk 106 true z_X5_rowAt zu_106 = true := by decide +kernel
theorem zck_107 : zchk 107 true z_X5_textAt zu_107 = true := by decide +kernel
theorem zck_108 : zchk 108 true z_X5_isWhen zu_108 = true := by decide +kernel
theorem zck_109 : zchk 109 true z_X5_isKeptPlace zu_109 = true := by decide +kernel
theorem zck_110 : zchk 110 true z_X5_found zu_110 = true := by decide +kernel
theorem zck_111 : zchk 111 true z_X5_tell zu_111 = true := by decide +kernel
theorem zck_112 : zchk 112 true z_X5_tellMean zu_112 = true := by decide +kernel
theorem zck_113 : zchk 113 true z_X5_commonDivisor zu_113 = true := by decide +kernel
theorem zck_114 : zchk 114 true z_X5_renewed zu_114 = true := by decide +kernel
theorem zck_115 : zchk 115 true z_X5_sleptThrough zu_115 = true := by decide +kernel
theorem zck_116 : zchk 116 true z_X5_wakingsWithout zu_116 = true := by decide +kernel
theorem zck_117 : zchk 117 true z_X5_beginPlans zu_117 = true := by decide +kernel
theorem zck_118 : zchk 118 true z_X5_leastPlan zu_118 = true := by decide +kernel
theorem zck_119 : zchk 119 true z_X5_weighed zu_119 = true := by decide +kernel
theorem zck_120 : zchk 120 true z_X5_firstGladPair zu_120 = true := by decide +kernel
theorem zck_121 : zchk 121 true z_X5_wouldBothGladlyChange zu_121 = true := by decide +kernel
theorem zck_122 : zchk 122 true z_X5_countFitting zu_122 = true := by decide +kernel
theorem zck_123 : zchk 123 true z_X5_fitsBook zu_123 = true := by decide +kernel
theorem zck_124 : zchk 124 true z_X5_fitsBookBy zu_124 = true := by decide +kernel
theorem zck_125 : zchk 125 true z_X5_counted zu_125 = true := by decide +kernel
theorem zck_126 : zchk 126 true z_X5_howManyThere zu_126 = true := by decide +kernel
theorem zck_127 : zchk 127 true z_X5_howManyKept zu_127 = true := by decide +kernel
theorem zck_128 : zchk 128 true z_J6_bitCount_0f7a4 zu_128 = true := by decide +kernel
theorem zck_129 : zchk 129 true z_J7_fill_53178 zu_129 = true := by decide +kernel
theorem zck_130 : zchk 130 true z_L_cell zu_130 = true := by decide +kernel
theorem zck_131 : zchk 131 true z_L_low zu_131 = true := by decide +kernel
theorem zck_132 : zchk 132 true z_L_letter zu_132 = true := by decide +kernel
theorem zck_133 : zchk 133 true z_L_placeLetter zu_133 = true := by decide +kernel
theorem zck_134_0 : zchk 134 true z_L_deck_0 zu_134_0 = true := by decide +kernel
theorem zck_134_1 : zchk 134 true z_L_deck_1 zu_134_1 = true := by decide +kernel
theorem zck_134_2 : zchk 134 true z_L_deck_2 zu_134_2 = true := by decide +kernel
theorem zck_134_3 : zchk 134 true z_L_deck_3 zu_134_3 = true := by decide +kernel
theorem zck_134_4 : zchk 134 true z_L_deck_4 zu_134_4 = true := by decide +kernel
theorem zck_134_5 : zchk 134 true z_L_deck_5 zu_134_5 = true := by decide +kernel
theorem zck_134 : zchk 134 true z_L_deck zu_134 = true := zchk_app rfl zck_134_0 (zchk_app rfl zck_134_1 (zchk_app rfl zck_134_2 (zchk_app rfl zck_134_3 (zchk_app rfl zck_134_4 (zck_134_5)))))
theorem zck_135 : zchk 135 true z_L_bits zu_135 = true := by decide +kernel
theorem zck_136 : zchk 136 true z_L_whoAt zu_136 = true := by decide +kernel
theorem zck_137_0 : zchk 137 true z_L_stir_0 zu_137_0 = true := by decide +kernel
theorem zck_137_1 : zchk 137 true z_L_stir_1 zu_137_1 = true := by decide +kernel
theorem zck_137_2 : zchk 137 true z_L_stir_2 zu_137_2 = true := by decide +kernel
theorem zck_137_3 : zchk 137 true z_L_stir_3 zu_137_3 = true := by decide +kernel
theorem zck_137_4 : zchk 137 true z_L_stir_4 zu_137_4 = true := by decide +kernel
theorem zck_137 : zchk 137 true z_L_stir zu_137 = true := zchk_app rfl zck_137_0 (zchk_app rfl zck_137_1 (zchk_app rfl zck_137_2 (zchk_app rfl zck_137_3 (zck_137_4))))
theorem zck_138 : zchk 138 true z_L_told zu_138 = true := by decide +kernel
end
section
theorem zck (mi : Nat) : zchk mi true (zcd mi) (zus.getD mi []) = true := by
  match mi with
  | 0 => exact zck_0
  | 1 => exact zck_1
  | 2 => exact zck_2
  | 3 => exact zck_3
  | 4 => exact zck_4
  | 5 => exact zck_5
  | 6 => exact zck_6
  | 7 => exact zck_7
  | 8 => exact zck_8
  | 9 => exact zck_9
  | 10 => exact zck_10
  | 11 => exact zck_11
  | 12 => exact zck_12
  | 13 => exact zck_13
  | 14 => exact zck_14
  | 15 => exact zck_15
  | 16 => exact zck_16
  | 17 => exact zck_17
  | 18 => exact zck_18
  | 19 => exact zck_19
  | 20 => exact zck_20
  | 21 => exact zck_21
  | 22 => exact zck_22
  | 23 => exact zck_23
  | 24 => exact zck_24
  | 25 => exact zck_25
  | 26 => exact zck_26
  | 27 => exact zck_27
  | 28 => exact zck_28
  | 29 => exact zck_29
  | 30 => exact zck_30
  | 31 => exact zck_31
  | 32 => exact zck_32
  | 33 => exact zck_33
  | 34 => exact zck_34
  | 35 => exact zck_35
  | 36 => exact zck_36
  | 37 => exact zck_37
  | 38 => exact zck_38
  | 39 => exact zck_39
  | 40 => exact zck_40
  | 41 => exact zck_41
  | 42 => exact zck_42
  | 43 => exact zck_43
  | 44 => exact zck_44
  | 45 => exact zck_45
  | 46 => exact zck_46
  | 47 => exact zck_47
  | 48 => exact zck_48
  | 49 => exact zck_49
  | 50 => exact zck_50
  | 51 => exact zck_51
  | 52 => exact zck_52
  | 53 => exact zck_53
  | 54 => exact zck_54
  | 55 => exact zck_55
  | 56 => exact zck_56
  | 57 => exact zck_57
  | 58 => exact zck_58
  | 59 => exact zck_59
  | 60 => exact zck_60
  | 61 => exact zck_61
  | 62 => exact zck_62
  | 63 => exact zck_63
  | 64 => exact zck_64
  | 65 => exact zck_65
  | 66 => exact zck_66
  | 67 => exact zck_67
  | 68 => exact zck_68
  | 69 => exact zck_69
  | 70 => exact zck_70
  | 71 => exact zck_71
  | 72 => exact zck_72
  | 73 => exact zck_73
  | 74 => exact zck_74
  | 75 => exact zck_75
  | 76 => exact zck_76
  | 77 => exact zck_77
  | 78 => exact zck_78
  | 79 => exact zck_79
  | 80 => exact zck_80
  | 81 => exact zck_81
  | 82 => exact zck_82
  | 83 => exact zck_83
  | 84 => exact zck_84
  | 85 => exact zck_85
  | 86 => exact zck_86
  | 87 => exact zck_87
  | 88 => exact zck_88
  | 89 => exact zck_89
  | 90 => exact zck_90
  | 91 => exact zck_91
  | 92 => exact zck_92
  | 93 => exact zck_93
  | 94 => exact zck_94
  | 95 => exact zck_95
  | 96 => exact zck_96
  | 97 => exact zck_97
  | 98 => exact zck_98
  | 99 => exact zck_99
  | 100 => exact zck_100
  | 101 => exact zck_101
  | 102 => exact zck_102
  | 103 => exact zck_103
  | 104 => exact zck_104
  | 105 => exact zck_105
  | 106 => exact zck_106
  | 107 => exact zck_107
  | 108 => exact zck_108
  | 109 => exact zck_109
  | 110 => exact zck_110
  | 111 => exact zck_111
  | 112 => exact zck_112
  | 113 => exact zck_113
  | 114 => exact zck_114
  | 115 => exact zck_115
  | 116 => exact zck_116
  | 117 => exact zck_117
  | 118 => exact zck_118
  | 119 => exact zck_119
  | 120 => exact zck_120
  | 121 => exact zck_121
  | 122 => exact zck_122
  | 123 => exact zck_123
  | 124 => exact zck_124
  | 125 => exact zck_125
  | 126 => exact zck_126
  | 127 => exact zck_127
  | 128 => exact zck_128
  | 129 => exact zck_129
  | 130 => exact zck_130
  | 131 => exact zck_131
  | 132 => exact zck_132
  | 133 => exact zck_133
  | 134 => exact zck_134
  | 135 => exact zck_135
  | 136 => exact zck_136
  | 137 => exact zck_137
  | 138 => exact zck_138
  | k + 139 => rfl
theorem zck_at {mi pc : Nat} {q : Nat × Instr × zL} (h : zlk (zcd mi) pc = some q) : decode (zB mi) pc = .ok (q.2.1, q.1) ∧ zokA mi pc q.1 q.2.1 q.2.2 = true ∧ ∃ u, zokB mi q.2.1 q.2.2 u = true := zchk_at (zck mi) h
end
section
/-! THE PURE MACHINE IS THE MACHINE: worlds, locals -/
abbrev zG : Type := va_G × ClassId × (Nat → ClassId)
def zenc (aI : ClassId) (aR : Nat → ClassId) (c : zC) : va_E := match c with
  | .inl q => .inl (aI, q.1, .inl q.2)
  | .inr (.inl q) => .inl (aR q.1, q.2.1, .inr (.inr (.inr (.inr q.2.2))))
  | .inr (.inr q) => .inr q
def zHS (G : zG) (r : zE) (s : State) (h : zH) (H : Heap) : Prop :=
  H.size = r.1 + h.length ∧ (∀ (k : Nat) (c : zC), h[k]? = some c → va_at G.1 zcls (r.1 + k, zenc G.2.1 G.2.2 c) H) ∧
  (∀ (a : Nat) (q : Bool × Nat × (Nat → Int32)), r.2.1 a = some q → va_T (if q.1 = true then .char else .int) a q.2.1 (fun j => .int (q.2.2 j)) (fun x => r.1 ≤ x) s H) ∧
  (∀ (i : Nat) (q : String × String × String), zstat[i]? = some q → va_Z q.1 q.2.1 q.2.2 (.ref (r.2.2 i)) (fun x => r.1 ≤ x) s H)
def zgt : List Cond := lw_tbl.filter goodWord
theorem zgt_of {w : Cond} (h : w ∈ lw_tbl) (hg : goodWord w = true) : w ∈ zgt := List.mem_filter.mpr ⟨h, hg⟩
theorem zgood : GoodIn zgt zgt := fun w hw => ⟨hw, good_of_word (List.mem_filter.mp hw).2⟩
/-- words that move by rows of their own -/
def zNd : Cond → Bool
  | .fieldLinkNest _ _ _ _ _ _ => true
  | .methodLinkNest _ _ _ _ => true
  | .arrayOver (.object _) => true
  | _ => false
def zNs (s : State) : Prop := ∀ w ∈ lw_tbl, zNd w = true → va_Nw w s
theorem zNs.warm {s U : State} (hW : s.WarmedH U.vm) (h : zNs s) : zNs U := by
  intro w hw hd
  have k := h w hw hd
  unfold zNd at hd
  split at hd
  · exact va_Nw.warmF hW k
  · exact va_Nw.warmM hW k
  · exact va_AO.moved hW.alike k
  · cases hd
def zKS (G : zG) (s : State) : Prop := va_K G.1 zcls [(G.2.1, .int), (G.2.2 4, .object RX4), (G.2.2 2, .object RX2)] s ∧ zNs s
theorem zKS.warm {G : zG} {s U : State} (hW : s.WarmedH U.vm) (h : zKS G s) : zKS G U := ⟨va_K.moved hW.alike h.1, h.2.warm hW⟩
def zWS (G : zG) (r : zE) (h : zH) (U : State) : Prop := zHS G r U h U.heap ∧ zKS G U
theorem zHS.moved {G : zG} {r : zE} {s t : State} {h : zH} {H : Heap} (hvm : s.vm.Alike t.vm) (hs : zHS G r s h H) : zHS G r t h H :=
  ⟨hs.1, hs.2.1, fun a q e => (hs.2.2.1 a q e).moved hvm, fun i q e => (hs.2.2.2 i q e).moved hvm⟩
theorem zHS.set {G : zG} {r : zE} {s : State} {h : zH} {H H1 : Heap} {k : Nat} {c1 : zC} (hs : zHS G r s h H) (hk : k < h.length) (h1 : va_at G.1 zcls (r.1 + k, zenc G.2.1 G.2.2 c1) H1) (hz : H1.size = H.size) (hq : ∀ q : Nat, q ≠ r.1 + k → H1[q]? = H[q]?) : zHS G r s (h.set k c1) H1 := by
  have ho : ∀ a : Nat, a < H.size → ¬ r.1 ≤ a → H1[a]? = H[a]? := fun a _ ha => hq a (by omega)
  refine ⟨by rw [hz, hs.1, List.length_set], fun j c hj => ?_, fun a q e => (hs.2.2.1 a q e).kept ho, fun i q e => (hs.2.2.2 i q e).kept ho⟩
  by_cases hjk : j = k
  · subst hjk
    rw [List.getElem?_set_self hk] at hj
    cases hj
    exact h1
  · rw [List.getElem?_set_ne (Ne.symm hjk)] at hj
    exact (hs.2.1 j c hj).kept (hq _ (by show r.1 + j ≠ r.1 + k; omega))
theorem zHS.push {G : zG} {r : zE} {s : State} {h : zH} {H H1 : Heap} {c1 : zC} (hs : zHS G r s h H) (h1 : va_at G.1 zcls (r.1 + h.length, zenc G.2.1 G.2.2 c1) H1) (hz : H1.size = H.size + 1) (hq : ∀ q : Nat, q < H.size → H1[q]? = H[q]?) : zHS G r s (h ++ [c1]) H1 := by
  have ho : ∀ a : Nat, a < H.size → ¬ r.1 ≤ a → H1[a]? = H[a]? := fun a ha _ => hq a ha
  refine ⟨by rw [hz, hs.1, List.length_append, List.length_singleton]; omega, fun j c hj => ?_, fun a q e => (hs.2.2.1 a q e).kept ho, fun i q e => (hs.2.2.2 i q e).kept ho⟩
  by_cases hjk : j < h.length
  · rw [List.getElem?_append_left hjk] at hj
    exact (hs.2.1 j c hj).kept (hq _ (by show r.1 + j < H.size; rw [hs.1]; omega))
  · rw [List.getElem?_append_right (by omega)] at hj
    have hlt := (List.getElem?_eq_some_iff.mp hj).1
    simp only [List.length_singleton] at hlt
    have e : j = h.length := by omega
    subst e
    rw [Nat.sub_self] at hj
    cases hj
    exact h1
theorem zget_inv {r : zE} {h : zH} {a : Nat} {c : zC} (e : zget r h a = some c) : r.1 ≤ a ∧ h[a - r.1]? = some c ∧ r.1 + (a - r.1) = a := by
  unfold zget at e
  split at e
  · rename_i hc
    exact ⟨hc, e, by omega⟩
  · cases e
theorem zHS.at {G : zG} {r : zE} {s : State} {h : zH} {H : Heap} {a : Nat} {c : zC} (hs : zHS G r s h H) (e : zget r h a = some c) : va_at G.1 zcls (a, zenc G.2.1 G.2.2 c) H := by
  obtain ⟨_, e1, e2⟩ := zget_inv e
  have := hs.2.1 _ _ e1
  rw [e2] at this
  exact this
/-! sizes -/
def zcs (c : zC) : Nat := match c with
  | .inl q => q.1
  | .inr (.inl q) => q.2.1
  | .inr (.inr q) => ((zcls[q.1]?).map fun x => x.2.2).getD 0
def zhs : zH → Nat
  | [] => 0
  | c :: l => zcs c + zhs l
theorem zhs_app : ∀ (h g : zH), zhs (h ++ g) = zhs h + zhs g
  | [], g => by simp [zhs]
  | c :: l, g => by simp only [List.cons_append, zhs, zhs_app l g]; omega
theorem zhs_set {c0 c1 : zC} (e : zcs c1 = zcs c0) : ∀ (h : zH) (k : Nat), h[k]? = some c0 → zhs (h.set k c1) = zhs h
  | [], _, hk => by simp at hk
  | c :: l, 0, hk => by simp at hk; subst hk; simp only [List.set_cons_zero, zhs, e]
  | c :: l, k + 1, hk => by simp at hk; simp only [List.set_cons_succ, zhs, zhs_set e l k hk]
/-! locals -/
def zLV (ls : Array Slot) (nL : Nat) (lv : List (Option Value)) : Prop := ls.size = nL ∧ lv.length = nL ∧ lv_wf ls ∧ ∀ (i : Nat) (v : Value), lv[i]? = some (some v) → ls[i]? = some (.val v)
def zal (lv : List (Option Value)) : List (Nat × Value) := lv.zipIdx.filterMap fun q => q.1.map fun v => (q.2, v)
theorem zal_mem {lv : List (Option Value)} {i : Nat} {v : Value} : (i, v) ∈ zal lv ↔ lv[i]? = some (some v) := by
  unfold zal
  rw [List.mem_filterMap]
  constructor
  · rintro ⟨⟨o, j⟩, hm, e⟩
    rw [List.mk_mem_zipIdx_iff_getElem?] at hm
    cases o with
    | none => cases e
    | some w => simp at e; rw [← e.1, ← e.2]; exact hm
  · intro e
    exact ⟨(some v, i), List.mk_mem_zipIdx_iff_getElem?.mpr e, rfl⟩
theorem zLV.has {ls : Array Slot} {nL : Nat} {lv : List (Option Value)} (h : zLV ls nL lv) : lv_has ls nL (zal lv) := ⟨h.1, h.2.2.1, fun q hq => h.2.2.2 q.1 q.2 (zal_mem.mp hq)⟩
theorem zcl_len (lv : List (Option Value)) (i : Nat) : (zcl lv i).length = lv.length := by
  unfold zcl
  split
  · rfl
  · split
    · split
      · simp
      · rfl
    · rfl
theorem zcl_get {lv : List (Option Value)} {i j : Nat} {w : Value} (h : (zcl lv i)[j]? = some (some w)) : lv[j]? = some (some w) ∧ ¬ (j + 1 = i ∧ w.category = 2) := by
  unfold zcl at h
  split at h
  · exact ⟨h, by omega⟩
  · rename_i k
    split at h
    · rename_i v hv
      split at h
      · rename_i hc
        by_cases hjk : j = k
        · subst hjk
          rw [List.getElem?_set_self (List.getElem?_eq_some_iff.mp hv).1] at h
          cases h
        · rw [List.getElem?_set_ne (Ne.symm hjk)] at h
          exact ⟨h, by omega⟩
      · rename_i hc
        refine ⟨h, fun q => ?_⟩
        have : j = k := by omega
        subst this
        rw [hv] at h
        cases h
        exact hc q.2
    · rename_i hn
      refine ⟨h, fun q => ?_⟩
      have : j = k := by omega
      subst this
      exact hn _ h
theorem zLV.of1 {ls ls' : Array Slot} {nL : Nat} {lv : List (Option Value)} {i : Nat} {v : Value} (h : zLV ls nL lv) (hi : i < lv.length) (hs : lv_has ls' nL ((i, v) :: (zal lv).filter (fun q => !(q.1 == i) && !(q.1 + 1 == i && q.2.category == 2)))) : zLV ls' nL ((zcl lv i).set i (some v)) := by
  refine ⟨hs.1, by rw [List.length_set, zcl_len]; exact h.2.1, hs.2.1, fun j w hj => ?_⟩
  by_cases hji : j = i
  · subst hji
    rw [List.getElem?_set_self (by rw [zcl_len]; exact hi)] at hj
    cases hj
    exact hs.2.2 (j, v) List.mem_cons_self
  · rw [List.getElem?_set_ne (Ne.symm hji)] at hj
    obtain ⟨h1, h2⟩ := zcl_get hj
    refine hs.2.2 (j, w) (List.mem_cons_of_mem _ (List.mem_filter.mpr ⟨zal_mem.mpr h1, ?_⟩))
    simp only [Bool.and_eq_true, Bool.not_eq_true', beq_eq_false_iff_ne, ne_eq, Bool.and_eq_false_iff]
    refine ⟨hji, ?_⟩
    by_cases a : j + 1 = i
    · exact Or.inr fun b => h2 ⟨a, b⟩
    · exact Or.inl a
theorem zLV.of2 {ls ls' : Array Slot} {nL : Nat} {lv : List (Option Value)} {i : Nat} {v : Value} (h : zLV ls nL lv) (hi : i + 1 < lv.length) (hs : lv_has ls' nL ((i, v) :: (zal lv).filter (fun q => !(q.1 == i) && (!(q.1 == i + 1) && !(q.1 + 1 == i && q.2.category == 2))))) : zLV ls' nL (((zcl lv i).set i (some v)).set (i + 1) none) := by
  refine ⟨hs.1, by rw [List.length_set, List.length_set, zcl_len]; exact h.2.1, hs.2.1, fun j w hj => ?_⟩
  by_cases hj1 : j = i + 1
  · subst hj1
    rw [List.getElem?_set_self (by rw [List.length_set, zcl_len]; exact hi)] at hj
    cases hj
  · rw [List.getElem?_set_ne (Ne.symm hj1)] at hj
    by_cases hji : j = i
    · subst hji
      rw [List.getElem?_set_self (by rw [zcl_len]; omega)] at hj
      cases hj
      exact hs.2.2 (j, v) List.mem_cons_self
    · rw [List.getElem?_set_ne (Ne.symm hji)] at hj
      obtain ⟨h1, h2⟩ := zcl_get hj
      refine hs.2.2 (j, w) (List.mem_cons_of_mem _ (List.mem_filter.mpr ⟨zal_mem.mpr h1, ?_⟩))
      simp only [Bool.and_eq_true, Bool.not_eq_true', beq_eq_false_iff_ne, ne_eq, Bool.and_eq_false_iff]
      refine ⟨hji, hj1, ?_⟩
      by_cases a : j + 1 = i
      · exact Or.inr fun b => h2 ⟨a, b⟩
      · exact Or.inl a
theorem zfg_len : ∀ (l : List (Option Value)) (m : Nat), (zfg m l).length = l.length
  | [], _ => rfl
  | v :: l, m => by simp only [zfg, List.length_cons, zfg_len l]
theorem zfg_get {v : Value} : ∀ (l : List (Option Value)) (m i : Nat), (zfg m l)[i]? = some (some v) → l[i]? = some (some v)
  | [], _, _, h => by simp [zfg] at h
  | u :: l, m, 0, h => by
    simp only [zfg, List.getElem?_cons_zero] at h ⊢
    split at h
    · cases h
    · exact h
  | u :: l, m, i + 1, h => by
    simp only [zfg, List.getElem?_cons_succ] at h ⊢
    exact zfg_get l _ i h
theorem zLV.forget {ls : Array Slot} {nL m : Nat} {lv : List (Option Value)} (h : zLV ls nL lv) : zLV ls nL (zfg m lv) := ⟨h.1, by rw [zfg_len]; exact h.2.1, h.2.2.1, fun i v hi => h.2.2.2 i v (zfg_get lv m i hi)⟩
theorem zenl_len : ∀ vs : List Value, (lg_sl vs).length = (zenl vs).length
  | [] => rfl
  | v :: l => by
    have := zenl_len l
    unfold lg_sl zenl at this ⊢
    simp only [List.flatMap_cons, List.length_append, this]
    by_cases h : v.category = 2 <;> simp [h]
theorem zenl_at {v : Value} : ∀ (vs : List Value) (k i : Nat), (zenl vs)[i]? = some (some v) → (k + i, v) ∈ lv_args k vs
  | [], _, _, h => by simp [zenl] at h
  | u :: l, k, i, h => by
    have ih := zenl_at (v := v) l
    unfold zenl at h ih
    simp only [List.flatMap_cons] at h
    simp only [lv_args]
    by_cases hc : u.category = 2
    · rw [if_pos hc] at h
      rw [if_pos hc]
      match i, h with
      | 0, h => simp at h; subst h; exact List.mem_cons_self
      | 1, h => simp at h
      | i + 2, h =>
        have := ih (k + 2) i (by simpa using h)
        rw [show k + (i + 2) = k + 2 + i by omega]
        exact List.mem_cons_of_mem _ this
    · rw [if_neg hc] at h
      rw [if_neg hc]
      match i, h with
      | 0, h => simp at h; subst h; exact List.mem_cons_self
      | i + 1, h =>
        have := ih (k + 1) i (by simpa using h)
        rw [show k + (i + 1) = k + 1 + i by omega]
        exact List.mem_cons_of_mem _ this
theorem zent_lv (vs : List Value) {n : Nat} (h : (zenl vs).length ≤ n) : zLV ((lg_sl vs ++ List.replicate (n - (lg_sl vs).length) Slot.unset).toArray) n (zent n vs) := by
  have he := lv_entry vs (n := n) (by rw [zenl_len]; exact h)
  refine ⟨he.1, by unfold zent; rw [List.length_append, List.length_replicate]; omega, he.2.1, fun i v hi => ?_⟩
  refine he.2.2 (i, v) ?_
  unfold zent at hi
  by_cases hl : i < (zenl vs).length
  · rw [List.getElem?_append_left hl] at hi
    have := zenl_at vs 0 i hi
    rwa [Nat.zero_add] at this
  · rw [List.getElem?_append_right (by omega), List.getElem?_replicate] at hi
    split at hi <;> cases hi
end
section
/-! the walk -/
/-- how a method ends -/
def zOut (mi pc : Nat) (v : Option Value) : Prop :=
  (∃ x : Int32, v = some (.int x) ∧ decode (zB mi) pc = .ok (.ireturn, 1) ∧ (zRt mi = some .int ∨ zRt mi = some .boolean ∧ (x = 0 ∨ x = 1))) ∨
  (∃ x : Int64, v = some (.long x) ∧ decode (zB mi) pc = .ok (.lreturn, 1) ∧ zRt mi = some .long) ∨
  (∃ x : Option Nat, v = some (va_rf x) ∧ decode (zB mi) pc = .ok (.areturn, 1) ∧ zRt mi = some (.object RX4)) ∨
  (v = none ∧ decode (zB mi) pc = .ok (.return_, 1) ∧ zRt mi = none)
def zFix (G : zG) (p : Program) (s : State) (m : MethodId) (args : Array Value) (meth : Method) (c : Code) (mi : Nat) : Prop :=
  p.tables.exec = Jvm.exec ∧ c.code = zB mi ∧ c.maxLocals = zMl mi ∧ s.vm.findClass (zY mi).cls = some m.cls ∧ (∀ w ∈ zgt, w.before args s = true) ∧ zKS G s ∧ ((zY mi).name = "<init>" → meth.name = "<init>")
/-- from here the method comes to its end with v, and the heap is g -/
def zGo (l : Launch) (G : zG) (r : zE) (mi : Nat) (v : Option Value) (g : zH) (pc : Nat) (lv : List (Option Value)) (st : List Value) (h : zH) : Prop :=
  (h.length ≤ g.length ∧ zhs h ≤ zhs g) ∧
  ∀ {p : Program} {e : Env} {R : Room} {s : State} {m : MethodId} {args : Array Value} {below : List Frame} {meth : Method} {c : Code} {Q : State → Prop} {H : Heap} {locs : List Loc} {cells slots k n : Nat} {ls : Array Slot},
    zFix G p s m args meth c mi → zLV ls (zMl mi) lv → zHS G r s h H → (∀ q ∈ locs, r.1 ≤ q.base) → k + h.length = cells + g.length → n + zhs h = slots + zhs g → k ≤ R.cells → n ≤ R.slots → zFr mi ≤ R.frames → zLo mi ≤ R.locals →
    (∀ (pc' : Nat) (ls' : Array Slot) (H' : Heap) (locs' : List Loc), zOut mi pc' v → zHS G r s g H' → (∀ q ∈ locs', r.1 ≤ q.base) → W p l e R s m args below meth c H' locs' k n Q (F0 m pc' ls' v.toList)) →
    W p l e R s m args below meth c H locs cells slots Q (F0 m pc ls st)
section GO
variable {l : Launch} {G : zG} {r : zE} {mi : Nat} {v : Option Value} {g : zH} {pc : Nat} {lv : List (Option Value)} {st : List Value} {h : zH}
/-- a row that moves neither heap nor locals -/
theorem zGo.row {pc2 : Nat} {st2 : List Value}
    (hrow : ∀ {p : Program} {e : Env} {R : Room} {s : State} {m : MethodId} {args : Array Value} {below : List Frame} {meth : Method} {c : Code} {Q : State → Prop} {H : Heap} {locs : List Loc} {cells slots : Nat} {ls : Array Slot}, zFix G p s m args meth c mi → zLV ls (zMl mi) lv → zHS G r s h H → zFr mi ≤ R.frames → zLo mi ≤ R.locals → W p l e R s m args below meth c H locs cells slots Q (F0 m pc2 ls st2) → W p l e R s m args below meth c H locs cells slots Q (F0 m pc ls st))
    (k : zGo l G r mi v g pc2 lv st2 h) : zGo l G r mi v g pc lv st h :=
  ⟨k.1, fun hF hL hH hl e1 e2 h1 h2 hf ho hr => hrow hF hL hH hf ho (k.2 hF hL hH hl e1 e2 h1 h2 hf ho hr)⟩
/-- a row that writes a local -/
theorem zGo.rowL {pc2 : Nat} {st2 : List Value} {lv2 : List (Option Value)}
    (hrow : ∀ {p : Program} {e : Env} {R : Room} {s : State} {m : MethodId} {args : Array Value} {below : List Frame} {meth : Method} {c : Code} {Q : State → Prop} {H : Heap} {locs : List Loc} {cells slots : Nat} {ls : Array Slot}, zFix G p s m args meth c mi → zLV ls (zMl mi) lv → (∀ ls2, zLV ls2 (zMl mi) lv2 → W p l e R s m args below meth c H locs cells slots Q (F0 m pc2 ls2 st2)) → W p l e R s m args below meth c H locs cells slots Q (F0 m pc ls st))
    (k : zGo l G r mi v g pc2 lv2 st2 h) : zGo l G r mi v g pc lv st h :=
  ⟨k.1, fun hF hL hH hl e1 e2 h1 h2 hf ho hr => hrow hF hL fun _ hL2 => k.2 hF hL2 hH hl e1 e2 h1 h2 hf ho hr⟩
theorem zGo.store {pc2 i : Nat} {t : List Value} {x : Value}
    (hrow : ∀ {p : Program} {e : Env} {R : Room} {s : State} {m : MethodId} {args : Array Value} {below : List Frame} {meth : Method} {c : Code} {Q : State → Prop} {H : Heap} {locs : List Loc} {cells slots nL : Nat} {ls : Array Slot} {al al' : List (Nat × Value)}, p.tables.exec = Jvm.exec → c.code = zB mi → lv_has ls nL al → i < nL → (i, x) :: al.filter (fun q => !(q.1 == i) && !(q.1 + 1 == i && q.2.category == 2)) = al' → (∀ ls2, lv_has ls2 nL al' → W p l e R s m args below meth c H locs cells slots Q (F0 m pc2 ls2 t)) → W p l e R s m args below meth c H locs cells slots Q (F0 m pc ls (x :: t)))
    (hi : i < lv.length) (k : zGo l G r mi v g pc2 ((zcl lv i).set i (some x)) t h) : zGo l G r mi v g pc lv (x :: t) h :=
  zGo.rowL (fun hF hL kk => hrow hF.1 hF.2.1 hL.has (by rw [← hL.2.1]; exact hi) rfl fun ls2 hs => kk ls2 (hL.of1 hi hs)) k
theorem zGo.store2 {pc2 i : Nat} {t : List Value} {x : Value}
    (hrow : ∀ {p : Program} {e : Env} {R : Room} {s : State} {m : MethodId} {args : Array Value} {below : List Frame} {meth : Method} {c : Code} {Q : State → Prop} {H : Heap} {locs : List Loc} {cells slots nL : Nat} {ls : Array Slot} {al al' : List (Nat × Value)}, p.tables.exec = Jvm.exec → c.code = zB mi → lv_has ls nL al → i + 1 < nL → (i, x) :: al.filter (fun q => !(q.1 == i) && (!(q.1 == i + 1) && !(q.1 + 1 == i && q.2.category == 2))) = al' → (∀ ls2, lv_has ls2 nL al' → W p l e R s m args below meth c H locs cells slots Q (F0 m pc2 ls2 t)) → W p l e R s m args below meth c H locs cells slots Q (F0 m pc ls (x :: t)))
    (hi : i + 1 < lv.length) (k : zGo l G r mi v g pc2 (((zcl lv i).set i (some x)).set (i + 1) none) t h) : zGo l G r mi v g pc lv (x :: t) h :=
  zGo.rowL (fun hF hL kk => hrow hF.1 hF.2.1 hL.has (by rw [← hL.2.1]; exact hi) rfl fun ls2 hs => kk ls2 (hL.of2 hi hs)) k
/-- a row that writes a cell -/
theorem zGo.write {pc2 : Nat} {st2 : List Value} {a : Nat} {c0 c1 : zC} (hz : zget r h a = some c0) (hc : zcs c1 = zcs c0)
    (hrow : ∀ {p : Program} {e : Env} {R : Room} {s : State} {m : MethodId} {args : Array Value} {below : List Frame} {meth : Method} {c : Code} {Q : State → Prop} {H : Heap} {locs : List Loc} {cells slots : Nat} {ls : Array Slot}, zFix G p s m args meth c mi → zLV ls (zMl mi) lv → zHS G r s h H → zFr mi ≤ R.frames → zLo mi ≤ R.locals →
      (∀ (H1 : Heap) (L : List Loc), va_at G.1 zcls (a, zenc G.2.1 G.2.2 c1) H1 → H1.size = H.size → (∀ q : Nat, q ≠ a → H1[q]? = H[q]?) → (∀ q ∈ L, q.base = a) → W p l e R s m args below meth c H1 (locs ++ L) cells slots Q (F0 m pc2 ls st2)) → W p l e R s m args below meth c H locs cells slots Q (F0 m pc ls st))
    (k : zGo l G r mi v g pc2 lv st2 (h.set (a - r.1) c1)) : zGo l G r mi v g pc lv st h := by
  obtain ⟨ha, hk, he⟩ := zget_inv hz
  have hlt := (List.getElem?_eq_some_iff.mp hk).1
  have hsz := zhs_set hc h _ hk
  refine ⟨by have := k.1; rwa [List.length_set, hsz] at this, fun hF hL hH hl e1 e2 h1 h2 hf ho hr => hrow hF hL hH hf ho fun H1 L g1 g2 g3 g4 => ?_⟩
  refine k.2 hF hL (hH.set hlt (by rw [he]; exact g1) g2 (by rw [he]; exact g3)) (fun q hq => ?_) (by rw [List.length_set]; exact e1) (by rw [hsz]; exact e2) h1 h2 hf ho hr
  rcases List.mem_append.mp hq with hq | hq
  · exact hl q hq
  · rw [g4 q hq]; exact ha
/-- a row that makes a cell -/
theorem zGo.make {pc2 : Nat} {st2 : List Value} {c1 : zC}
    (hrow : ∀ {p : Program} {e : Env} {R : Room} {s : State} {m : MethodId} {args : Array Value} {below : List Frame} {meth : Method} {c : Code} {Q : State → Prop} {H : Heap} {locs : List Loc} {cells slots : Nat} {ls : Array Slot}, zFix G p s m args meth c mi → zLV ls (zMl mi) lv → zHS G r s h H → cells + 1 ≤ R.cells → slots + zcs c1 ≤ R.slots →
      (∀ (H1 : Heap), va_at G.1 zcls (H.size, zenc G.2.1 G.2.2 c1) H1 → H1.size = H.size + 1 → (∀ q : Nat, q < H.size → H1[q]? = H[q]?) → W p l e R s m args below meth c H1 locs (cells + 1) (slots + zcs c1) Q (F0 m pc2 ls st2)) → W p l e R s m args below meth c H locs cells slots Q (F0 m pc ls st))
    (k : zGo l G r mi v g pc2 lv st2 (h ++ [c1])) : zGo l G r mi v g pc lv st h := by
  have k1 := k.1
  rw [zhs_app, List.length_append, List.length_singleton] at k1
  simp only [zhs] at k1
  refine ⟨⟨by omega, by omega⟩, fun hF hL hH hl e1 e2 h1 h2 hf ho hr => hrow hF hL hH (by omega) (by omega) fun H1 g1 g2 g3 => ?_⟩
  refine k.2 hF hL (hH.push (by rw [← hH.1]; exact g1) g2 g3) hl (by rw [List.length_append, List.length_singleton]; omega) (by rw [zhs_app]; simp only [zhs]; omega) h1 h2 hf ho hr
end GO
theorem zA1 {n : Nat} {b : Bool} (h : ((n == 1) && b) = true) : n = 1 := by
  rw [Bool.and_eq_true] at h; exact of_decide_eq_true h.1
theorem zA2 {n : Nat} {b : Bool} (h : ((n == 2) && b) = true) : n = 2 := by
  rw [Bool.and_eq_true] at h; exact of_decide_eq_true h.1
theorem zA3 {n : Nat} {b : Bool} (h : ((n == 3) && b) = true) : n = 3 := by
  rw [Bool.and_eq_true] at h; exact of_decide_eq_true h.1
theorem zAdc {a : Bool} {p : Prop} [Decidable p] (h : (a && decide p) = true) : p := by
  rw [Bool.and_eq_true] at h; exact of_decide_eq_true h.2
end
section
/-! facts of the classes' tables -/
theorem zcls_f {ci : Nat} {q : vw_C} (h : zcls[ci]? = some q) : (∀ w ∈ u_ws q.1 q.2.1 q.2.2, w ∈ zgt) ∧ (∀ k, k < q.2.2 → parseFieldDescriptor (q.2.1 k).2.2.1 = some (zty ci k)) ∧ (∀ a, a < q.2.2 → ∀ b, b < q.2.2 → a ≠ b → (q.2.1 a).2.1 ≠ (q.2.1 b).2.1) ∧ (∀ k, k < q.2.2 → (q.2.1 k).1 = q.1) ∧ Cond.instantiable q.1 q.2.2 ∈ zgt ∧ Cond.initialized q.1 ∈ zgt ∧ (∀ j, j < q.2.2 → defaultValue (zty ci j) = vp_V (zdf ci) j) ∧ (zdf ci).length = q.2.2 := by
  match ci, h with
  | 0, h => cases h; exact ⟨by decide +kernel, tyX0_ok, nmX0, by decide +kernel, by decide +kernel, by decide +kernel, by decide +kernel, by decide +kernel⟩
  | 1, h => cases h; exact ⟨by decide +kernel, tyX1_ok, nmX1, by decide +kernel, by decide +kernel, by decide +kernel, by decide +kernel, by decide +kernel⟩
  | 2, h => cases h; exact ⟨by decide +kernel, tyX2_ok, nmX2, by decide +kernel, by decide +kernel, by decide +kernel, by decide +kernel, by decide +kernel⟩
  | 3, h => cases h; exact ⟨by decide +kernel, tyX3_ok, nmX3, by decide +kernel, by decide +kernel, by decide +kernel, by decide +kernel, by decide +kernel⟩
  | 4, h => cases h; exact ⟨by decide +kernel, tyX4_ok, nmX4, by decide +kernel, by decide +kernel, by decide +kernel, by decide +kernel, by decide +kernel⟩
  | 5, h => cases h; exact ⟨by decide +kernel, tyX5_ok, nmX5, by decide +kernel, by decide +kernel, by decide +kernel, by decide +kernel, by decide +kernel⟩
  | k + 6, h => simp [zcls] at h
theorem zplain (mj : Nat) : plainName (zY mj).cls = true := by
  have h1 : ∀ y ∈ zYs, plainName y.cls = true := by decide +kernel
  have h2 : plainName yL_law.cls = true := by decide +kernel
  unfold zY
  rw [List.getD_eq_getElem?_getD]
  cases hq : zYs[mj]? with
  | none => exact h2
  | some y => exact h1 y (List.mem_of_getElem? hq)
section HR
variable {p : Program} {l : Launch} {e : Env} {R : Room} {s : State} {m : MethodId} {args : Array Value} {below : List Frame} {meth : Method} {c : Code} {H : Heap} {locs : List Loc} {cells slots : Nat} {Q : State → Prop}
variable {cc : ByteArray} {pc : Nat} {ls : Array Slot} {rest : List Value} {D : va_G} {tys : List (ClassId × FieldType)} {a : Nat}
theorem zP1 {x : Nat × va_E} (h : va_at D zcls x H) : va_P D zcls [x] H := fun k q hk => by
  have hlt := (List.getElem?_eq_some_iff.mp hk).1
  simp only [List.length_singleton] at hlt
  have : k = 0 := by omega
  subst this
  cases hk
  exact h
theorem zr_put (hexec : p.tables.exec = Jvm.exec) (hb : c.code = cc) {own : String} {ci index k : Nat} {q : vw_C} (hts : ∀ w ∈ zgt, w.before args s = true) (hown : s.vm.findClass own = some m.cls) (hK : va_K D zcls tys s) {fs : List Value} (hP : va_at D zcls (a, .inr (ci, fs)) H) (hc : zcls[ci]? = some q) (hk : k < q.2.2)
    (hlink : ((Cond.fieldLink own index q.1 (q.2.1 k).2.1 (q.2.1 k).2.2.1).before args s = true ∧ ((q.2.1 k).2.2.2 = false ∨ q.1 = own ∧ meth.name = "<init>")) ∨ ((Cond.fieldLinkNest own index q.1 (q.2.1 k).2.1 (q.2.1 k).2.2.1 "HammockDeck").before args s = true ∧ (q.2.1 k).2.2.2 = false))
    {v : Value} (hn : narrow (zty ci k) v = v) (hfit : fits (zty ci k) v = true) (hl : k < fs.length) (hdg : decode cc pc = .ok (.putfield index, 3))
    (kk : ∀ (H1 : Heap) (L : List Loc), va_at D zcls (a, .inr (ci, fs.set k v)) H1 → H1.size = H.size → (∀ q : Nat, q ≠ a → H1[q]? = H[q]?) → (∀ q ∈ L, q.base = a) → W p l e R s m args below meth c H1 (locs ++ L) cells slots Q (F0 m (pc + 3) ls rest)) : W p l e R s m args below meth c H locs cells slots Q (F0 m pc ls (v :: .ref a :: rest)) := by
  obtain ⟨hin, hty, hnm, hdecl, -, -, -, -⟩ := zcls_f hc
  have hap := va_apart (own := own) hts hin (zty ci) hty hnm hK hc
  obtain ⟨C, T, N⟩ := q
  obtain ⟨r, h1, cell, q1, q2, q3, q4⟩ := hP
  have hr : r = (C, T, N) := Option.some.inj (h1.symm.trans hc)
  subst hr
  obtain ⟨hS, hfc, kC, hkC, hkind⟩ := hK.1 ci _ hc
  obtain ⟨cf, kf, fi, f, hi, hsl⟩ := hS k hk
  have hi' : s.fieldFound? C (T k).2.1 (T k).2.2.1 = some (cf, kf, fi, f) := by
    have := hdecl k hk
    dsimp only at this hi
    rw [this] at hi
    exact hi
  have hst := (u_facts hfc hkC (u_lays hts hin hk) hi).1
  have fin : ∀ H' : Heap, H'[a]? = some (cell.setSlot f.slot v) → H'.size = H.size → (∀ q, q ≠ a → H'[q]? = H[q]?) → W p l e R s m args below meth c H' (locs ++ [⟨a, f.slot⟩]) cells slots Q (F0 m (pc + 3) ls rest) := by
    intro H' e1 e2 e3
    rw [hsl] at e1
    exact kk H' _ ⟨_, hc, t_OB.to (V := updV (vp_V fs) k v) ⟨_, e1, q2, q3, t_set q4 hap hk v⟩ (fun j _ => vp_updV_set hl v j)⟩ e2 e3 (fun z hz => by rw [List.mem_singleton.mp hz])
  have hlay := hts _ (hin _ (u_in_lay hk))
  unfold u_lay at hlay
  by_cases hfin : (T k).2.2.2 = false
  · rw [if_neg (by rw [hfin]; decide)] at hlay
    have h6 := u_store hfc hkC hkind hlay hi (hty k hk) hn hfit
    rcases hlink with ⟨hlink, -⟩ | ⟨hlink, -⟩
    · exact W.putK hexec hb (f := f) ⟨hown, hlink, ⟨_, _, _, hi'⟩, hst⟩ (by rw [q2]; exact h6) q1 q3 (by rw [hsl]; exact k2_hasslot (q4 k hk)) rfl rfl hdg fin
    · exact va_WputK hexec hb (f := f) hown hlink hi' hst (by rw [q2]; exact h6) q1 q3 (by rw [hsl]; exact k2_hasslot (q4 k hk)) rfl rfl hdg fin
  · rcases hlink with ⟨hlink, hf2⟩ | ⟨-, hf2⟩
    · rcases hf2 with hf2 | ⟨hf2, hin2⟩
      · exact absurd hf2 hfin
      · have hfin2 : (T k).2.2.2 = true := by cases hh : (T k).2.2.2 with | true => rfl | false => exact absurd hh hfin
        rw [if_pos hfin2] at hlay
        have hcf : m.cls = cf := by
          obtain ⟨_, _, c', _, _, _, -, -, hf', -, -, -, hown2, -⟩ := Cond.laysFinal_spec hlay
          have e1 : c' = cf := by have := hi.symm.trans hf'; simp at this; exact this.1.symm
          have e2 := hdecl k hk
          dsimp only at e2 hf2
          rw [e2, hf2] at hown2
          rw [← e1]; exact Option.some.inj (hown.symm.trans hown2)
        have h6 := u_fits hfc hkC hkind (Or.inr hlay) hi (hty k hk) hn hfit
        exact W.putFinK hexec hb hown hlink hi' hst hcf hin2 (by rw [q2]; exact h6) q1 q3 (by rw [hsl]; exact k2_hasslot (q4 k hk)) rfl rfl hdg fin
    · exact absurd hf2 hfin
theorem zr_iast (hexec : p.tables.exec = Jvm.exec) (hb : c.code = cc) {cA : ClassId} (hA : ArrOfT s cA .int) {n : Nat} {f : Nat → Int32} (hP : va_at D zcls (a, .inl (cA, n, .inl f)) H) {i x : Int32} (hin : vp_in i n) (hdg : decode cc pc = .ok (.iastore, 1))
    (kk : ∀ (H1 : Heap) (L : List Loc), va_at D zcls (a, .inl (cA, n, .inl (upd f i.toNatClampNeg x))) H1 → H1.size = H.size → (∀ q : Nat, q ≠ a → H1[q]? = H[q]?) → (∀ q ∈ L, q.base = a) → W p l e R s m args below meth c H1 (locs ++ L) cells slots Q (F0 m (pc + 1) ls rest)) : W p l e R s m args below meth c H locs cells slots Q (F0 m pc ls (.int x :: .int i :: .ref a :: rest)) := by
  refine W.iast hexec hb hP (hA n (fun j => .int (f j))) (fun q => by cases q) (by show ¬ (i < 0 ∨ (arrV _ _ _).slots.size ≤ _); rw [arrV_size]; exact hin) rfl rfl hdg fun H1 e z oq => ?_
  refine kk H1 _ ?_ z oq (fun z hz => by rw [List.mem_singleton.mp hz])
  show H1[a]? = some (vp_cell _ _)
  rw [e]
  rw [vp_cell_i, vp_cell_i, arrV_store]
  congr 2
  funext q
  by_cases hq : q = i.toNatClampNeg
  · subst hq
    simp [updV, upd]
  · simp [updV, upd, hq]
theorem zr_aast (hexec : p.tables.exec = Jvm.exec) (hb : c.code = cc) (hK : va_K D zcls tys s) {cA : ClassId} {ci n v : Nat} {q : vw_C} (hA : va_RA s cA (.object q.1)) {f : Nat → Option Nat} (hP : va_at D zcls (a, .inl (cA, n, .inr (.inr (.inr (.inr f))))) H) {vs : List Value} (hv : va_at D zcls (v, .inr (ci, vs)) H) (hc : zcls[ci]? = some q) {i : Int32} (hin : vp_in i n) (hdg : decode cc pc = .ok (.aastore, 1))
    (kk : ∀ (H1 : Heap) (L : List Loc), va_at D zcls (a, .inl (cA, n, .inr (.inr (.inr (.inr (va_up f i.toNatClampNeg (some v))))))) H1 → H1.size = H.size → (∀ q : Nat, q ≠ a → H1[q]? = H[q]?) → (∀ q ∈ L, q.base = a) → W p l e R s m args below meth c H1 (locs ++ L) cells slots Q (F0 m (pc + 1) ls rest)) : W p l e R s m args below meth c H locs cells slots Q (F0 m pc ls (.ref v :: .int i :: .ref a :: rest)) := by
  have hlt : i.toNatClampNeg < n := Nat.not_le.mp fun q => hin (Or.inr q)
  have h0 : ¬ i < 0 := fun q => hin (Or.inl q)
  obtain ⟨r', hr', cellV, g1, g2, g3, -⟩ := hv
  have hcls := (hK.1 ci q hc).2
  obtain ⟨kA, comp, k1, k2, k3, -⟩ := hA
  have hcomp : comp = D.1 ci := Option.some.inj (k3.symm.trans hcls.1)
  subst hcomp
  obtain ⟨kC, hkC, -⟩ := hcls.2
  refine W.aast hexec hb hP (fun q h => by cases h) (fun h => by cases h) k1 k2 rfl hkC ⟨h0, by show _ < (arrV _ _ _).slots.size; rw [arrV_size]; exact hlt⟩ g1 (fun q h => by rw [g3] at h; cases h) (by rw [g2]; exact hkC) (by rw [g2]; exact va_assign hcls) rfl rfl hdg fun H1 e z oq => ?_
  refine kk H1 _ ?_ z oq (fun z hz => by rw [List.mem_singleton.mp hz])
  show H1[a]? = some (vp_cell _ _)
  rw [e]
  rw [vp_cell_q, vp_cell_q, arrV_store]
  congr 2
  funext q
  by_cases hq : q = i.toNatClampNeg
  · subst hq
    simp [updV, va_up, va_rf]
  · simp [updV, va_up, hq]
theorem zr_newa (hexec : p.tables.exec = Jvm.exec) (hb : c.code = cc) (harr : (Cond.arrayClass .int).before args s = true) {aI : ClassId} (hI : s.vm.findClass ("[" ++ FieldType.int.toString) = some aI) {n : Int32} (hn : ¬ n < 0) (hm : n.toNatClampNeg ≤ 100000) (hcells : cells + 1 ≤ R.cells) (hslots : slots + n.toNatClampNeg ≤ R.slots) (hdg : decode cc pc = .ok (.newarray .int, 2))
    (kk : ∀ (H1 : Heap), va_at D zcls (H.size, .inl (aI, n.toNatClampNeg, .inl (fun _ => 0))) H1 → H1.size = H.size + 1 → (∀ q : Nat, q < H.size → H1[q]? = H[q]?) → W p l e R s m args below meth c H1 locs (cells + 1) (slots + n.toNatClampNeg) Q (F0 m (pc + 2) ls (.ref H.size :: rest))) : W p l e R s m args below meth c H locs cells slots Q (F0 m pc ls (.int n :: rest)) := by
  refine va_newaK hexec hb (atype := .int) harr rfl hdg rfl hn rfl (by show n.toNatClampNeg * 4 ≤ _; omega) hcells hslots rfl fun H1 cA e1 z1 o1 hAr hNm => ?_
  have hc : cA = aI := Option.some.inj (hNm.symm.trans hI)
  subst hc
  exact kk H1 e1 z1 o1
theorem zr_newq (hexec : p.tables.exec = Jvm.exec) (hb : c.code = cc) {own C : String} {index : Nat} (hown : s.vm.findClass own = some m.cls) (hclink : (Cond.classLink own index C).before args s = true) (hover : (Cond.arrayOver (.object C)).before args s = true) {aQ : ClassId} (hI : s.vm.findClass ("[" ++ (FieldType.object C).toString) = some aQ) {n : Int32} (hn : ¬ n < 0) (hm : n.toNatClampNeg ≤ 100000) (hcells : cells + 1 ≤ R.cells) (hslots : slots + n.toNatClampNeg ≤ R.slots) (hdg : decode cc pc = .ok (.anewarray index, 3))
    (kk : ∀ (H1 : Heap), va_at D zcls (H.size, .inl (aQ, n.toNatClampNeg, .inr (.inr (.inr (.inr (fun _ => none)))))) H1 → H1.size = H.size + 1 → (∀ q : Nat, q < H.size → H1[q]? = H[q]?) → W p l e R s m args below meth c H1 locs (cells + 1) (slots + n.toNatClampNeg) Q (F0 m (pc + 3) ls (.ref H.size :: rest))) : W p l e R s m args below meth c H locs cells slots Q (F0 m pc ls (.int n :: rest)) := by
  refine W.anew hexec hb hown hclink hover rfl hdg rfl hn (by omega) hcells hslots fun cA kA comp f1 f2 f3 f4 => ?_
  have hc : cA = aQ := Option.some.inj (f1.symm.trans hI)
  subst hc
  refine kk _ ?_ (by rw [Array.size_push]) (fun q hq => by rw [Array.getElem?_push, if_neg (Nat.ne_of_lt hq)])
  show (H.push _)[H.size]? = some (vp_cell _ _)
  rw [vp_cell_q, Array.getElem?_push_size, ← arrV_new]
  rfl
theorem zr_new (hexec : p.tables.exec = Jvm.exec) (hb : c.code = cc) {own : String} {ci index : Nat} {q : vw_C} (hts : ∀ w ∈ zgt, w.before args s = true) (hown : s.vm.findClass own = some m.cls) (hcl : (Cond.classLink own index q.1).before args s = true) (hK : va_K D zcls tys s) (hc : zcls[ci]? = some q) (hcells : cells + 1 ≤ R.cells) (hslots : slots + q.2.2 ≤ R.slots) (hdg : decode cc pc = .ok (.new index, 3))
    (kk : ∀ (H1 : Heap), va_at D zcls (H.size, .inr (ci, zdf ci)) H1 → H1.size = H.size + 1 → (∀ q : Nat, q < H.size → H1[q]? = H[q]?) → W p l e R s m args below meth c H1 locs (cells + 1) (slots + q.2.2) Q (F0 m (pc + 3) ls (.ref H.size :: rest))) : W p l e R s m args below meth c H locs cells slots Q (F0 m pc ls rest) := by
  obtain ⟨hin, hty, -, -, hinst, hini, hdf, -⟩ := zcls_f hc
  have hKn := hK.1 ci _ hc
  refine W.newcK hexec hb hown hcl (hts _ hinst) (hts _ hini) rfl hdg hcells hslots hKn.2.1 rfl fun H1 kC hkC e1 z1 o1 => ?_
  exact kk H1 ⟨_, hc, (u_born (zty ci) hts hin hKn hkC e1 hty).to hdf⟩ z1 o1
/-- behind a call -/
theorem zr_run {mc ms : Nat} {st0 : List Value} {Qa : State → Outcome → State → Prop} {free : Addr → Prop} (hr : va_Run p l e R s m args below meth c H locs cells slots mc ms (F0 m pc ls st0) rest Qa free)
    (kk : ∀ (v : Option Value) (st₀ t T' : State) (L : List Loc), s.vm.Alike t.vm → (∀ q ∈ L, free q.base) → Qa st₀ (.returned v) t → W p l e R s m args below meth c t.heap (locs ++ L) (cells + mc) (slots + ms) Q (F0 m (pc + 3) ls (v.toList ++ rest))) : W p l e R s m args below meth c H locs cells slots Q (F0 m pc ls st0) := by
  intro T hT X
  obtain ⟨v, st₀, t, T', L, h0, X', hL, e1, e2, hq, st⟩ := hr T hT X
  obtain ⟨t', a, b⟩ := kk v st₀ t T' L (by rw [← e2]; exact X'.warmed.alike) hL hq T' e1 X'
  exact ⟨t', st t' a, b⟩
end HR
/-- a method that runs keeps its contract -/
def zSnd (l : Launch) (G : zG) (r : zE) (n : Nat) : Prop := ∀ (mi pc : Nat) (lv : List (Option Value)) (st : List Value) (h : zH) (v : Option Value) (g : zH), zrun r n mi pc lv st h = some (v, g) → zGo l G r mi v g pc lv st h
theorem zWS.moved {G : zG} {r : zE} {h : zH} {s t : State} {H : Heap} (hH : zHS G r s h H) (ht : t.heap = H) (hW : s.WarmedH t.vm) : zHS G r t h t.heap := by rw [ht]; exact hH.moved hW.alike
theorem zMet {l : Launch} {G : zG} {r : zE} {n : Nat} (hS : zSnd l G r n) {mj : Nat} {as : List Value} {h g : zH} {v : Option Value} (hq : zrun r n mj 0 (zent (zMl mj) as) [] h = some (v, g)) (hlen : (zenl as).length ≤ zMl mj) :
    Met l (zY mj) (Cond.code (zY mj) (zB mj) (zMl mj) (zRt mj) :: zgt) { frames := zFr mj, cells := g.length - h.length, slots := zhs g - zhs h, locals := zLo mj } (va_Pc as (zWS G r h)) (fun _ _ o t => o = .returned v ∧ zHS G r t g t.heap) (g.length - h.length) (zhs g - zhs h) (fun q => r.1 ≤ q) := by
  refine Met.ofW (cc := zB mj) (maxL := zMl mj) (ret := zRt mj) (zplain mj) rfl ?_
  intro p e s m args below meth c s₁ B hml hv
  obtain ⟨rfl, hH, hK⟩ := hv
  have hx := B.exec
  have hb := B.bytes
  have hr := B.returns
  have hlocks := B.notSynchronized
  have hts := atoms_spec (ws := Cond.code (zY mj) (zB mj) (zMl mj) (zRt mj) :: zgt) B.pre
  have hown : s.vm.findClass (zY mj).cls = some m.cls := findClass_of_methodNamed B.named
  have k := hS _ _ _ _ _ _ _ hq
  obtain ⟨k1, k2⟩ := k
  rw [lg_entry_eq]
  refine k2 (k := g.length - h.length) (n := zhs g - zhs h) ⟨hx, hb, hml, hown, fun w hw => hts w (List.mem_cons_of_mem _ hw), hK, fun hn => by rw [(name_of_methodNamed B.named B.method).1]; exact hn⟩ (zent_lv as hlen) hH (fun q hq => by cases hq) (by omega) (by omega) (Nat.le_refl _) (Nat.le_refl _) (Nat.le_refl _) (Nat.le_refl _) (fun pc' ls' H' locs' ho hH' hl' => ?_)
  rcases ho with ⟨x, rfl, hd, hx2⟩ | ⟨x, rfl, hd, hx2⟩ | ⟨x, rfl, hd, hx2⟩ | ⟨rfl, hd, hx2⟩
  · rcases hx2 with hx2 | ⟨hx2, hx3⟩
    · exact W.iret (v := x) hx hb (hr.trans hx2) (fun t ht hW => ⟨rfl, zWS.moved hH' ht hW⟩) hl' hd
    · exact W.zret (v := x) (ty := .boolean) hx hb (hr.trans hx2) (by rcases hx3 with rfl | rfl <;> rfl) (fun t ht hW => ⟨rfl, zWS.moved hH' ht hW⟩) hl' hd
  · exact W.lret (v := x) hx hb (hr.trans hx2) (fun t ht hW => ⟨rfl, zWS.moved hH' ht hW⟩) hl' hd
  · exact W.aret (v := va_rf x) hx hb (hr.trans hx2) (Or.inl ⟨_, rfl⟩) (by cases x with | none => exact Or.inl rfl | some a => exact Or.inr ⟨a, rfl⟩) (fun t ht hW => ⟨rfl, zWS.moved hH' ht hW⟩) hl' hd
  · exact W.vret hx hb (hr.trans hx2) (fun t ht hW => ⟨rfl, zWS.moved hH' ht hW⟩) hl' hd
end
section
/-! ONE STEP OF THE PURE MACHINE IS ONE OF THE MACHINE -/
section INV2
variable {r : zE} {h g : zH}
theorem zbind_inv {α β : Type} {x : Option α} {f : α → Option β} {q : β} (e : x.bind f = some q) : ∃ v, x = some v ∧ f v = some q := by
  cases x with
  | none => cases e
  | some v => exact ⟨v, rfl, e⟩
theorem zif_inv {β : Type} {c : Prop} [Decidable c] {x : Option β} {q : β} (e : (if c then x else none) = some q) : c ∧ x = some q := by
  by_cases hc : c
  · rw [if_pos hc] at e; exact ⟨hc, e⟩
  · rw [if_neg hc] at e; cases e
theorem zifn_inv {β : Type} {c : Prop} [Decidable c] {x : Option β} {q : β} (e : (if c then none else x) = some q) : ¬ c ∧ x = some q := by
  by_cases hc : c
  · rw [if_pos hc] at e; cases e
  · rw [if_neg hc] at e; exact ⟨hc, e⟩
theorem zix_inv {i : Int32} {n j : Nat} (e : zix i n = some j) : vp_in i n ∧ j = i.toNatClampNeg := by
  unfold zix at e
  obtain ⟨hc, e⟩ := zifn_inv e
  cases e
  exact ⟨hc, rfl⟩
theorem zixm_inv {α : Type} {i : Int32} {n : Nat} {f : Nat → α} {x : α} (e : (zix i n).map f = some x) : vp_in i n ∧ x = f i.toNatClampNeg := by
  cases hj : zix i n with
  | none => rw [hj] at e; cases e
  | some j =>
    obtain ⟨h1, rfl⟩ := zix_inv hj
    rw [hj] at e
    cases e
    exact ⟨h1, rfl⟩
theorem zgI_inv {a ci k : Nat} {x : Int32} (e : zgI r h a ci k = some x) : ∃ fs, zget r h a = some (.inr (.inr (ci, fs))) ∧ fs[k]? = some (.int x) := by
  unfold zgI at e
  split at e
  · rename_i c fs hz
    by_cases hci : c = ci
    · subst hci
      rw [if_pos rfl] at e
      split at e
      · rename_i y hy
        cases e
        exact ⟨fs, hz, hy⟩
      · cases e
    · rw [if_neg hci] at e; cases e
  · cases e
theorem zgL_inv {a ci k : Nat} {x : Int64} (e : zgL r h a ci k = some x) : ∃ fs, zget r h a = some (.inr (.inr (ci, fs))) ∧ fs[k]? = some (.long x) := by
  unfold zgL at e
  split at e
  · rename_i c fs hz
    by_cases hci : c = ci
    · subst hci
      rw [if_pos rfl] at e
      split at e
      · rename_i y hy
        cases e
        exact ⟨fs, hz, hy⟩
      · cases e
    · rw [if_neg hci] at e; cases e
  · cases e
theorem zgR_inv {a ci k : Nat} {x : Nat} (e : zgR r h a ci k = some x) : ∃ fs, zget r h a = some (.inr (.inr (ci, fs))) ∧ fs[k]? = some (.ref x) := by
  unfold zgR at e
  split at e
  · rename_i c fs hz
    by_cases hci : c = ci
    · subst hci
      rw [if_pos rfl] at e
      split at e
      · rename_i y hy
        cases e
        exact ⟨fs, hz, hy⟩
      · cases e
    · rw [if_neg hci] at e; cases e
  · cases e
theorem zpF_inv {a ci k : Nat} {v : Value} (e : zpF r h a ci k v = some g) : ∃ fs, zget r h a = some (.inr (.inr (ci, fs))) ∧ k < fs.length ∧ g = h.set (a - r.1) (.inr (.inr (ci, fs.set k v))) := by
  unfold zpF at e
  split at e
  · rename_i c fs hz
    by_cases hci : c = ci ∧ k < fs.length
    · rw [if_pos hci] at e
      obtain ⟨rfl, hk⟩ := hci
      cases e
      exact ⟨fs, hz, hk, rfl⟩
    · rw [if_neg hci] at e; cases e
  · cases e
theorem zaI_inv {a : Nat} {i x : Int32} (e : zaI r h a i = some x) : ∃ n f, (zget r h a = some (.inl (n, f)) ∨ ¬ r.1 ≤ a ∧ r.2.1 a = some (false, n, f)) ∧ vp_in i n ∧ x = f i.toNatClampNeg := by
  unfold zaI at e
  split at e
  · rename_i ha
    split at e
    · rename_i n f hz
      exact ⟨n, f, Or.inl (by unfold zget; rw [if_pos ha]; exact hz), zixm_inv e⟩
    · cases e
  · rename_i ha
    split at e
    · rename_i n f hz
      exact ⟨n, f, Or.inr ⟨ha, hz⟩, zixm_inv e⟩
    · cases e
theorem zaC_inv {a : Nat} {i x : Int32} (e : zaC r a i = some x) : ∃ n f, (¬ r.1 ≤ a ∧ r.2.1 a = some (true, n, f)) ∧ vp_in i n ∧ x = f i.toNatClampNeg := by
  unfold zaC at e
  obtain ⟨ha, e⟩ := zifn_inv e
  split at e
  · rename_i n f hz
    exact ⟨n, f, ⟨ha, hz⟩, zixm_inv e⟩
  · cases e
theorem zaQ_inv {a : Nat} {i : Int32} {x : Option Nat} (e : zaQ r h a i = some x) : ∃ c n f, zget r h a = some (.inr (.inl (c, n, f))) ∧ (c = 4 ∨ c = 2) ∧ vp_in i n ∧ x = f i.toNatClampNeg := by
  unfold zaQ at e
  split at e
  · rename_i c n f hz
    obtain ⟨hc, e⟩ := zif_inv e
    exact ⟨c, n, f, hz, hc, zixm_inv e⟩
  · cases e
theorem zaN_inv {a N : Nat} (e : zaN r h a = some N) : (∃ f, zget r h a = some (.inl (N, f))) ∨ (∃ c f, zget r h a = some (.inr (.inl (c, N, f))) ∧ (c = 4 ∨ c = 2)) ∨ (∃ b f, ¬ r.1 ≤ a ∧ r.2.1 a = some (b, N, f)) := by
  unfold zaN at e
  split at e
  · rename_i ha
    split at e
    · rename_i n f hz
      cases e
      exact Or.inl ⟨f, by unfold zget; rw [if_pos ha]; exact hz⟩
    · rename_i c n f hz
      obtain ⟨hc, e⟩ := zif_inv e
      cases e
      exact Or.inr (Or.inl ⟨c, f, by unfold zget; rw [if_pos ha]; exact hz, hc⟩)
    · cases e
  · rename_i ha
    split at e
    · rename_i b n f hz
      cases e
      exact Or.inr (Or.inr ⟨b, f, ha, hz⟩)
    · cases e
theorem zsI_inv {a : Nat} {i x : Int32} (e : zsI r h a i x = some g) : ∃ n f, zget r h a = some (.inl (n, f)) ∧ vp_in i n ∧ g = h.set (a - r.1) (.inl (n, upd f i.toNatClampNeg x)) := by
  unfold zsI at e
  split at e
  · rename_i n f hz
    obtain ⟨h1, h2⟩ := zixm_inv e
    exact ⟨n, f, hz, h1, h2⟩
  · cases e
theorem zob_inv {a ci : Nat} (e : zob r h a ci = true) : ∃ fs, zget r h a = some (.inr (.inr (ci, fs))) := by
  unfold zob at e
  split at e
  · rename_i c fs hz
    have := of_decide_eq_true e
    subst this
    exact ⟨fs, hz⟩
  · cases e
theorem zsQ_inv {a v : Nat} {i : Int32} (e : zsQ r h a i v = some g) : ∃ c n f vs, zget r h a = some (.inr (.inl (c, n, f))) ∧ (c = 4 ∨ c = 2) ∧ zget r h v = some (.inr (.inr (c, vs))) ∧ vp_in i n ∧ g = h.set (a - r.1) (.inr (.inl (c, n, va_up f i.toNatClampNeg (some v)))) := by
  unfold zsQ at e
  split at e
  · rename_i c n f hz
    obtain ⟨⟨hc1, hc2⟩, e⟩ := zif_inv e
    obtain ⟨vs, hv⟩ := zob_inv hc1
    obtain ⟨h1, h2⟩ := zixm_inv e
    exact ⟨c, n, f, vs, hz, hc2, hv, h1, h2⟩
  · cases e
theorem zcp_inv {a0 a1 : Nat} {sp dp n : Int32} (e : zcp r h a0 sp a1 dp n = some g) : ∃ n0 f n1 f1, zget r h a0 = some (.inl (n0, f)) ∧ zget r h a1 = some (.inl (n1, f1)) ∧ ¬ (sp < 0 ∨ dp < 0 ∨ n < 0 ∨ n0 < sp.toNatClampNeg + n.toNatClampNeg ∨ n1 < dp.toNatClampNeg + n.toNatClampNeg) ∧ g = h.set (a1 - r.1) (.inl (n1, va_cpy f f1 sp.toNatClampNeg dp.toNatClampNeg n.toNatClampNeg)) := by
  unfold zcp at e
  split at e
  · rename_i n0 f n1 f1 hz hz1
    obtain ⟨hc, e⟩ := zifn_inv e
    cases e
    exact ⟨n0, f, n1, f1, hz, hz1, hc, rfl⟩
  · cases e
end INV2
section STEP
variable {l : Launch} {G : zG} {r : zE} {n : Nat} {mi pc len : Nat} {w : zL} {lv : List (Option Value)} {st : List Value} {h g : zH} {v : Option Value}
theorem zs_iadd (ih : zSnd l G r n) (hd : decode (zB mi) pc = .ok (.iadd, len)) (hA : zokA mi pc len .iadd w = true) (hq : zx r (zrun r n) (zrun r n) mi pc len .iadd w lv st h = some (v, g)) : zGo l G r mi v g pc lv st h := by
  obtain rfl := zA1 hA
  unfold zx at hq
  dsimp only at hq
  obtain ⟨x, y, t, rfl, hq2⟩ := zp2i_inv hq
  replace hq := hq2
  exact (ih _ _ _ _ _ _ _ hq).row fun hF _ _ _ _ k => lv_iadd hF.1 hF.2.1 hd k
theorem zs_isub (ih : zSnd l G r n) (hd : decode (zB mi) pc = .ok (.isub, len)) (hA : zokA mi pc len .isub w = true) (hq : zx r (zrun r n) (zrun r n) mi pc len .isub w lv st h = some (v, g)) : zGo l G r mi v g pc lv st h := by
  obtain rfl := zA1 hA
  unfold zx at hq
  dsimp only at hq
  obtain ⟨x, y, t, rfl, hq2⟩ := zp2i_inv hq
  replace hq := hq2
  exact (ih _ _ _ _ _ _ _ hq).row fun hF _ _ _ _ k => lv_isub hF.1 hF.2.1 hd k
theorem zs_imul (ih : zSnd l G r n) (hd : decode (zB mi) pc = .ok (.imul, len)) (hA : zokA mi pc len .imul w = true) (hq : zx r (zrun r n) (zrun r n) mi pc len .imul w lv st h = some (v, g)) : zGo l G r mi v g pc lv st h := by
  obtain rfl := zA1 hA
  unfold zx at hq
  dsimp only at hq
  obtain ⟨x, y, t, rfl, hq2⟩ := zp2i_inv hq
  replace hq := hq2
  exact (ih _ _ _ _ _ _ _ hq).row fun hF _ _ _ _ k => lv_imul hF.1 hF.2.1 hd k
theorem zs_iand (ih : zSnd l G r n) (hd : decode (zB mi) pc = .ok (.iand, len)) (hA : zokA mi pc len .iand w = true) (hq : zx r (zrun r n) (zrun r n) mi pc len .iand w lv st h = some (v, g)) : zGo l G r mi v g pc lv st h := by
  obtain rfl := zA1 hA
  unfold zx at hq
  dsimp only at hq
  obtain ⟨x, y, t, rfl, hq2⟩ := zp2i_inv hq
  replace hq := hq2
  exact (ih _ _ _ _ _ _ _ hq).row fun hF _ _ _ _ k => lv_iand hF.1 hF.2.1 hd k
theorem zs_ior (ih : zSnd l G r n) (hd : decode (zB mi) pc = .ok (.ior, len)) (hA : zokA mi pc len .ior w = true) (hq : zx r (zrun r n) (zrun r n) mi pc len .ior w lv st h = some (v, g)) : zGo l G r mi v g pc lv st h := by
  obtain rfl := zA1 hA
  unfold zx at hq
  dsimp only at hq
  obtain ⟨x, y, t, rfl, hq2⟩ := zp2i_inv hq
  replace hq := hq2
  exact (ih _ _ _ _ _ _ _ hq).row fun hF _ _ _ _ k => lv_ior hF.1 hF.2.1 hd k
theorem zs_ixor (ih : zSnd l G r n) (hd : decode (zB mi) pc = .ok (.ixor, len)) (hA : zokA mi pc len .ixor w = true) (hq : zx r (zrun r n) (zrun r n) mi pc len .ixor w lv st h = some (v, g)) : zGo l G r mi v g pc lv st h := by
  obtain rfl := zA1 hA
  unfold zx at hq
  dsimp only at hq
  obtain ⟨x, y, t, rfl, hq2⟩ := zp2i_inv hq
  replace hq := hq2
  exact (ih _ _ _ _ _ _ _ hq).row fun hF _ _ _ _ k => lv_ixor hF.1 hF.2.1 hd k
theorem zs_ishl (ih : zSnd l G r n) (hd : decode (zB mi) pc = .ok (.ishl, len)) (hA : zokA mi pc len .ishl w = true) (hq : zx r (zrun r n) (zrun r n) mi pc len .ishl w lv st h = some (v, g)) : zGo l G r mi v g pc lv st h := by
  obtain rfl := zA1 hA
  unfold zx at hq
  dsimp only at hq
  obtain ⟨x, y, t, rfl, hq2⟩ := zp2i_inv hq
  replace hq := hq2
  exact (ih _ _ _ _ _ _ _ hq).row fun hF _ _ _ _ k => lv_ishl hF.1 hF.2.1 hd k
theorem zs_ishr (ih : zSnd l G r n) (hd : decode (zB mi) pc = .ok (.ishr, len)) (hA : zokA mi pc len .ishr w = true) (hq : zx r (zrun r n) (zrun r n) mi pc len .ishr w lv st h = some (v, g)) : zGo l G r mi v g pc lv st h := by
  obtain rfl := zA1 hA
  unfold zx at hq
  dsimp only at hq
  obtain ⟨x, y, t, rfl, hq2⟩ := zp2i_inv hq
  replace hq := hq2
  exact (ih _ _ _ _ _ _ _ hq).row fun hF _ _ _ _ k => lv_ishr hF.1 hF.2.1 hd k
theorem zs_iushr (ih : zSnd l G r n) (hd : decode (zB mi) pc = .ok (.iushr, len)) (hA : zokA mi pc len .iushr w = true) (hq : zx r (zrun r n) (zrun r n) mi pc len .iushr w lv st h = some (v, g)) : zGo l G r mi v g pc lv st h := by
  obtain rfl := zA1 hA
  unfold zx at hq
  dsimp only at hq
  obtain ⟨x, y, t, rfl, hq2⟩ := zp2i_inv hq
  replace hq := hq2
  exact (ih _ _ _ _ _ _ _ hq).row fun hF _ _ _ _ k => lv_iushr hF.1 hF.2.1 hd rfl k
theorem zs_idiv (ih : zSnd l G r n) (hd : decode (zB mi) pc = .ok (.idiv, len)) (hA : zokA mi pc len .idiv w = true) (hq : zx r (zrun r n) (zrun r n) mi pc len .idiv w lv st h = some (v, g)) : zGo l G r mi v g pc lv st h := by
  obtain rfl := zA1 hA
  unfold zx at hq
  dsimp only at hq
  obtain ⟨x, y, t, rfl, hq2⟩ := zp2i_inv hq
  replace hq := hq2
  obtain ⟨hc, hq⟩ := zifn_inv hq
  exact (ih _ _ _ _ _ _ _ hq).row fun hF _ _ _ _ k => lv_idiv hF.1 hF.2.1 hd hc k
theorem zs_irem (ih : zSnd l G r n) (hd : decode (zB mi) pc = .ok (.irem, len)) (hA : zokA mi pc len .irem w = true) (hq : zx r (zrun r n) (zrun r n) mi pc len .irem w lv st h = some (v, g)) : zGo l G r mi v g pc lv st h := by
  obtain rfl := zA1 hA
  unfold zx at hq
  dsimp only at hq
  obtain ⟨x, y, t, rfl, hq2⟩ := zp2i_inv hq
  replace hq := hq2
  obtain ⟨hc, hq⟩ := zifn_inv hq
  exact (ih _ _ _ _ _ _ _ hq).row fun hF _ _ _ _ k => lv_irem hF.1 hF.2.1 hd hc k
theorem zs_ladd (ih : zSnd l G r n) (hd : decode (zB mi) pc = .ok (.ladd, len)) (hA : zokA mi pc len .ladd w = true) (hq : zx r (zrun r n) (zrun r n) mi pc len .ladd w lv st h = some (v, g)) : zGo l G r mi v g pc lv st h := by
  obtain rfl := zA1 hA
  unfold zx at hq
  dsimp only at hq
  obtain ⟨x, y, t, rfl, hq2⟩ := zp2l_inv hq
  replace hq := hq2
  exact (ih _ _ _ _ _ _ _ hq).row fun hF _ _ _ _ k => lv_ladd hF.1 hF.2.1 hd k
theorem zs_lmul (ih : zSnd l G r n) (hd : decode (zB mi) pc = .ok (.lmul, len)) (hA : zokA mi pc len .lmul w = true) (hq : zx r (zrun r n) (zrun r n) mi pc len .lmul w lv st h = some (v, g)) : zGo l G r mi v g pc lv st h := by
  obtain rfl := zA1 hA
  unfold zx at hq
  dsimp only at hq
  obtain ⟨x, y, t, rfl, hq2⟩ := zp2l_inv hq
  replace hq := hq2
  exact (ih _ _ _ _ _ _ _ hq).row fun hF _ _ _ _ k => lv_lmul hF.1 hF.2.1 hd k
theorem zs_ldiv (ih : zSnd l G r n) (hd : decode (zB mi) pc = .ok (.ldiv, len)) (hA : zokA mi pc len .ldiv w = true) (hq : zx r (zrun r n) (zrun r n) mi pc len .ldiv w lv st h = some (v, g)) : zGo l G r mi v g pc lv st h := by
  obtain rfl := zA1 hA
  unfold zx at hq
  dsimp only at hq
  obtain ⟨x, y, t, rfl, hq2⟩ := zp2l_inv hq
  replace hq := hq2
  obtain ⟨hc, hq⟩ := zifn_inv hq
  exact (ih _ _ _ _ _ _ _ hq).row fun hF _ _ _ _ k => lv_ldiv hF.1 hF.2.1 hd hc k
theorem zs_lrem (ih : zSnd l G r n) (hd : decode (zB mi) pc = .ok (.lrem, len)) (hA : zokA mi pc len .lrem w = true) (hq : zx r (zrun r n) (zrun r n) mi pc len .lrem w lv st h = some (v, g)) : zGo l G r mi v g pc lv st h := by
  obtain rfl := zA1 hA
  unfold zx at hq
  dsimp only at hq
  obtain ⟨x, y, t, rfl, hq2⟩ := zp2l_inv hq
  replace hq := hq2
  obtain ⟨hc, hq⟩ := zifn_inv hq
  exact (ih _ _ _ _ _ _ _ hq).row fun hF _ _ _ _ k => lv_lrem hF.1 hF.2.1 hd hc k
theorem zs_lcmp (ih : zSnd l G r n) (hd : decode (zB mi) pc = .ok (.lcmp, len)) (hA : zokA mi pc len .lcmp w = true) (hq : zx r (zrun r n) (zrun r n) mi pc len .lcmp w lv st h = some (v, g)) : zGo l G r mi v g pc lv st h := by
  obtain rfl := zA1 hA
  unfold zx at hq
  dsimp only at hq
  obtain ⟨x, y, t, rfl, hq2⟩ := zp2l_inv hq
  replace hq := hq2
  exact (ih _ _ _ _ _ _ _ hq).row fun hF _ _ _ _ k => W.lcmp hF.1 hF.2.1 hd k
theorem zs_ineg (ih : zSnd l G r n) (hd : decode (zB mi) pc = .ok (.ineg, len)) (hA : zokA mi pc len .ineg w = true) (hq : zx r (zrun r n) (zrun r n) mi pc len .ineg w lv st h = some (v, g)) : zGo l G r mi v g pc lv st h := by
  obtain rfl := zA1 hA
  unfold zx at hq
  dsimp only at hq
  obtain ⟨x, t, rfl, hq2⟩ := zp1i_inv hq
  replace hq := hq2
  exact (ih _ _ _ _ _ _ _ hq).row fun hF _ _ _ _ k => lv_ineg hF.1 hF.2.1 hd k
theorem zs_lneg (ih : zSnd l G r n) (hd : decode (zB mi) pc = .ok (.lneg, len)) (hA : zokA mi pc len .lneg w = true) (hq : zx r (zrun r n) (zrun r n) mi pc len .lneg w lv st h = some (v, g)) : zGo l G r mi v g pc lv st h := by
  obtain rfl := zA1 hA
  unfold zx at hq
  dsimp only at hq
  obtain ⟨x, t, rfl, hq2⟩ := zp1l_inv hq
  replace hq := hq2
  exact (ih _ _ _ _ _ _ _ hq).row fun hF _ _ _ _ k => lv_lneg hF.1 hF.2.1 hd k
theorem zs_i2l (ih : zSnd l G r n) (hd : decode (zB mi) pc = .ok (.i2l, len)) (hA : zokA mi pc len .i2l w = true) (hq : zx r (zrun r n) (zrun r n) mi pc len .i2l w lv st h = some (v, g)) : zGo l G r mi v g pc lv st h := by
  obtain rfl := zA1 hA
  unfold zx at hq
  dsimp only at hq
  obtain ⟨x, t, rfl, hq2⟩ := zp1i_inv hq
  replace hq := hq2
  exact (ih _ _ _ _ _ _ _ hq).row fun hF _ _ _ _ k => lv_i2l hF.1 hF.2.1 hd rfl k
theorem zs_l2i (ih : zSnd l G r n) (hd : decode (zB mi) pc = .ok (.l2i, len)) (hA : zokA mi pc len .l2i w = true) (hq : zx r (zrun r n) (zrun r n) mi pc len .l2i w lv st h = some (v, g)) : zGo l G r mi v g pc lv st h := by
  obtain rfl := zA1 hA
  unfold zx at hq
  dsimp only at hq
  obtain ⟨x, t, rfl, hq2⟩ := zp1l_inv hq
  replace hq := hq2
  exact (ih _ _ _ _ _ _ _ hq).row fun hF _ _ _ _ k => lv_l2i hF.1 hF.2.1 hd rfl k
theorem zs_i2b (ih : zSnd l G r n) (hd : decode (zB mi) pc = .ok (.i2b, len)) (hA : zokA mi pc len .i2b w = true) (hq : zx r (zrun r n) (zrun r n) mi pc len .i2b w lv st h = some (v, g)) : zGo l G r mi v g pc lv st h := by
  obtain rfl := zA1 hA
  unfold zx at hq
  dsimp only at hq
  obtain ⟨x, t, rfl, hq2⟩ := zp1i_inv hq
  replace hq := hq2
  exact (ih _ _ _ _ _ _ _ hq).row fun hF _ _ _ _ k => lv_i2b hF.1 hF.2.1 hd rfl k
theorem zs_dup (ih : zSnd l G r n) (hd : decode (zB mi) pc = .ok (.dup, len)) (hA : zokA mi pc len .dup w = true) (hq : zx r (zrun r n) (zrun r n) mi pc len .dup w lv st h = some (v, g)) : zGo l G r mi v g pc lv st h := by
  obtain rfl := zA1 hA
  unfold zx at hq
  dsimp only at hq
  obtain ⟨u, t, rfl, hc, hq2⟩ := zp1v_inv hq
  replace hq := hq2
  exact (ih _ _ _ _ _ _ _ hq).row fun hF _ _ _ _ k => lv_dup hF.1 hF.2.1 hd hc k
theorem zs_pop (ih : zSnd l G r n) (hd : decode (zB mi) pc = .ok (.pop, len)) (hA : zokA mi pc len .pop w = true) (hq : zx r (zrun r n) (zrun r n) mi pc len .pop w lv st h = some (v, g)) : zGo l G r mi v g pc lv st h := by
  obtain rfl := zA1 hA
  unfold zx at hq
  dsimp only at hq
  obtain ⟨u, t, rfl, hc, hq2⟩ := zp1v_inv hq
  replace hq := hq2
  exact (ih _ _ _ _ _ _ _ hq).row fun hF _ _ _ _ k => lv_pop hF.1 hF.2.1 hd hc k
theorem zs_dup2 (ih : zSnd l G r n) (hd : decode (zB mi) pc = .ok (.dup2, len)) (hA : zokA mi pc len .dup2 w = true) (hq : zx r (zrun r n) (zrun r n) mi pc len .dup2 w lv st h = some (v, g)) : zGo l G r mi v g pc lv st h := by
  obtain rfl := zA1 hA
  unfold zx at hq
  dsimp only at hq
  obtain ⟨u, u2, t, rfl, hc, hq2⟩ := zp2v_inv hq
  replace hq := hq2
  exact (ih _ _ _ _ _ _ _ hq).row fun hF _ _ _ _ k => lv_dup2_11 hF.1 hF.2.1 hd hc.1 hc.2 k
theorem zs_iconst {i : Int} (ih : zSnd l G r n) (hd : decode (zB mi) pc = .ok ((.iconst i), len)) (hA : zokA mi pc len (.iconst i) w = true) (hq : zx r (zrun r n) (zrun r n) mi pc len (.iconst i) w lv st h = some (v, g)) : zGo l G r mi v g pc lv st h := by
  obtain rfl := zA1 hA
  unfold zx at hq
  dsimp only at hq
  exact (ih _ _ _ _ _ _ _ hq).row fun hF _ _ _ _ k => lv_iconst hF.1 hF.2.1 hd rfl k
theorem zs_lconst {i : Fin 2} (ih : zSnd l G r n) (hd : decode (zB mi) pc = .ok ((.lconst i), len)) (hA : zokA mi pc len (.lconst i) w = true) (hq : zx r (zrun r n) (zrun r n) mi pc len (.lconst i) w lv st h = some (v, g)) : zGo l G r mi v g pc lv st h := by
  obtain rfl := zA1 hA
  unfold zx at hq
  dsimp only at hq
  exact (ih _ _ _ _ _ _ _ hq).row fun hF _ _ _ _ k => lv_lconst hF.1 hF.2.1 hd rfl k
theorem zs_bipush {i : Int} (ih : zSnd l G r n) (hd : decode (zB mi) pc = .ok ((.bipush i), len)) (hA : zokA mi pc len (.bipush i) w = true) (hq : zx r (zrun r n) (zrun r n) mi pc len (.bipush i) w lv st h = some (v, g)) : zGo l G r mi v g pc lv st h := by
  obtain rfl := zA2 hA
  unfold zx at hq
  dsimp only at hq
  exact (ih _ _ _ _ _ _ _ hq).row fun hF _ _ _ _ k => lv_bipush hF.1 hF.2.1 hd (zAdc hA) k
theorem zs_sipush {i : Int} (ih : zSnd l G r n) (hd : decode (zB mi) pc = .ok ((.sipush i), len)) (hA : zokA mi pc len (.sipush i) w = true) (hq : zx r (zrun r n) (zrun r n) mi pc len (.sipush i) w lv st h = some (v, g)) : zGo l G r mi v g pc lv st h := by
  obtain rfl := zA3 hA
  unfold zx at hq
  dsimp only at hq
  exact (ih _ _ _ _ _ _ _ hq).row fun hF _ _ _ _ k => lv_sipush hF.1 hF.2.1 hd (zAdc hA) k
theorem zs_ldc {i : Nat} {u : List Nat} (ih : zSnd l G r n) (hd : decode (zB mi) pc = .ok ((.ldc i), len)) (hA : zokA mi pc len (.ldc i) w = true) (hB : zokB mi (.ldc i) w u = true) (hq : zx r (zrun r n) (zrun r n) mi pc len (.ldc i) w lv st h = some (v, g)) : zGo l G r mi v g pc lv st h := by
  obtain rfl := zA3 hA
  unfold zx at hq
  dsimp only at hq
  exact (ih _ _ _ _ _ _ _ hq).row fun hF _ _ _ _ k => lv_ldc hF.1 hF.2.1 hF.2.2.2.1 (hF.2.2.2.2.1 _ (zgt_of (zmem_in hB) rfl)) hd k
theorem zs_ldc_w {i : Nat} {u : List Nat} (ih : zSnd l G r n) (hd : decode (zB mi) pc = .ok ((.ldc_w i), len)) (hA : zokA mi pc len (.ldc_w i) w = true) (hB : zokB mi (.ldc_w i) w u = true) (hq : zx r (zrun r n) (zrun r n) mi pc len (.ldc_w i) w lv st h = some (v, g)) : zGo l G r mi v g pc lv st h := by
  obtain rfl := zA3 hA
  unfold zx at hq
  dsimp only at hq
  exact (ih _ _ _ _ _ _ _ hq).row fun hF _ _ _ _ k => lv_ldcw hF.1 hF.2.1 hF.2.2.2.1 (hF.2.2.2.2.1 _ (zgt_of (zmem_in hB) rfl)) hd k
theorem zs_ldc2_w {i : Nat} {u : List Nat} (ih : zSnd l G r n) (hd : decode (zB mi) pc = .ok ((.ldc2_w i), len)) (hA : zokA mi pc len (.ldc2_w i) w = true) (hB : zokB mi (.ldc2_w i) w u = true) (hq : zx r (zrun r n) (zrun r n) mi pc len (.ldc2_w i) w lv st h = some (v, g)) : zGo l G r mi v g pc lv st h := by
  obtain rfl := zA3 hA
  unfold zx at hq
  dsimp only at hq
  exact (ih _ _ _ _ _ _ _ hq).row fun hF _ _ _ _ k => lv_ldc2 hF.1 hF.2.1 hF.2.2.2.1 (hF.2.2.2.2.1 _ (zgt_of (zmem_in hB) rfl)) hd k
theorem zs_null (ih : zSnd l G r n) (hd : decode (zB mi) pc = .ok (.aconst_null, len)) (hA : zokA mi pc len .aconst_null w = true) (hq : zx r (zrun r n) (zrun r n) mi pc len .aconst_null w lv st h = some (v, g)) : zGo l G r mi v g pc lv st h := by
  obtain rfl := zA1 hA
  unfold zx at hq
  dsimp only at hq
  exact (ih _ _ _ _ _ _ _ hq).row fun hF _ _ _ _ k => lv_null hF.1 hF.2.1 hd k
theorem zs_iload {i : Nat} (ih : zSnd l G r n) (hd : decode (zB mi) pc = .ok ((.iload i), len)) (hA : zokA mi pc len (.iload i) w = true) (hq : zx r (zrun r n) (zrun r n) mi pc len (.iload i) w lv st h = some (v, g)) : zGo l G r mi v g pc lv st h := by
  obtain rfl := zA2 hA
  unfold zx at hq
  dsimp only at hq
  obtain ⟨x, e, hq⟩ := zli_inv hq
  exact (ih _ _ _ _ _ _ _ hq).row fun hF hL _ _ _ k => lv_iload hF.1 hF.2.1 hd (hL.2.2.2 _ _ e) k
theorem zs_iload_n {i : Fin 4} (ih : zSnd l G r n) (hd : decode (zB mi) pc = .ok ((.iload_n i), len)) (hA : zokA mi pc len (.iload_n i) w = true) (hq : zx r (zrun r n) (zrun r n) mi pc len (.iload_n i) w lv st h = some (v, g)) : zGo l G r mi v g pc lv st h := by
  obtain rfl := zA1 hA
  unfold zx at hq
  dsimp only at hq
  obtain ⟨x, e, hq⟩ := zli_inv hq
  exact (ih _ _ _ _ _ _ _ hq).row fun hF hL _ _ _ k => lv_iload_n hF.1 hF.2.1 hd rfl (hL.2.2.2 _ _ e) k
theorem zs_lload {i : Nat} (ih : zSnd l G r n) (hd : decode (zB mi) pc = .ok ((.lload i), len)) (hA : zokA mi pc len (.lload i) w = true) (hq : zx r (zrun r n) (zrun r n) mi pc len (.lload i) w lv st h = some (v, g)) : zGo l G r mi v g pc lv st h := by
  obtain rfl := zA2 hA
  unfold zx at hq
  dsimp only at hq
  obtain ⟨x, e, hq⟩ := zll_inv hq
  exact (ih _ _ _ _ _ _ _ hq).row fun hF hL _ _ _ k => lv_lload hF.1 hF.2.1 hd (hL.2.2.2 _ _ e) k
theorem zs_lload_n {i : Fin 4} (ih : zSnd l G r n) (hd : decode (zB mi) pc = .ok ((.lload_n i), len)) (hA : zokA mi pc len (.lload_n i) w = true) (hq : zx r (zrun r n) (zrun r n) mi pc len (.lload_n i) w lv st h = some (v, g)) : zGo l G r mi v g pc lv st h := by
  obtain rfl := zA1 hA
  unfold zx at hq
  dsimp only at hq
  obtain ⟨x, e, hq⟩ := zll_inv hq
  exact (ih _ _ _ _ _ _ _ hq).row fun hF hL _ _ _ k => lv_lload_n hF.1 hF.2.1 hd rfl (hL.2.2.2 _ _ e) k
theorem zs_aload {i : Nat} (ih : zSnd l G r n) (hd : decode (zB mi) pc = .ok ((.aload i), len)) (hA : zokA mi pc len (.aload i) w = true) (hq : zx r (zrun r n) (zrun r n) mi pc len (.aload i) w lv st h = some (v, g)) : zGo l G r mi v g pc lv st h := by
  obtain rfl := zA2 hA
  unfold zx at hq
  dsimp only at hq
  obtain ⟨x, e, hq⟩ := zlq_inv hq
  cases x with
  | none => exact (ih _ _ _ _ _ _ _ hq).row fun hF hL _ _ _ k => lv_aloadN hF.1 hF.2.1 hd (hL.2.2.2 _ _ e) k
  | some x => exact (ih _ _ _ _ _ _ _ hq).row fun hF hL _ _ _ k => lv_aload hF.1 hF.2.1 hd (hL.2.2.2 _ _ e) k
theorem zs_aload_n {i : Fin 4} (ih : zSnd l G r n) (hd : decode (zB mi) pc = .ok ((.aload_n i), len)) (hA : zokA mi pc len (.aload_n i) w = true) (hq : zx r (zrun r n) (zrun r n) mi pc len (.aload_n i) w lv st h = some (v, g)) : zGo l G r mi v g pc lv st h := by
  obtain rfl := zA1 hA
  unfold zx at hq
  dsimp only at hq
  obtain ⟨x, e, hq⟩ := zlq_inv hq
  cases x with
  | none => exact (ih _ _ _ _ _ _ _ hq).row fun hF hL _ _ _ k => lv_aload_nN hF.1 hF.2.1 hd rfl (hL.2.2.2 _ _ e) k
  | some x => exact (ih _ _ _ _ _ _ _ hq).row fun hF hL _ _ _ k => lv_aload_n hF.1 hF.2.1 hd rfl (hL.2.2.2 _ _ e) k
theorem zs_istore {i : Nat} (ih : zSnd l G r n) (hd : decode (zB mi) pc = .ok ((.istore i), len)) (hA : zokA mi pc len (.istore i) w = true) (hq : zx r (zrun r n) (zrun r n) mi pc len (.istore i) w lv st h = some (v, g)) : zGo l G r mi v g pc lv st h := by
  obtain rfl := zA2 hA
  unfold zx at hq
  dsimp only at hq
  obtain ⟨x, t, rfl, hq2⟩ := zp1i_inv hq
  replace hq := hq2
  obtain ⟨hi, hq⟩ := zs1_inv hq
  exact zGo.store (fun hx hb a b c k => lv_istore hx hb hd a b c k) hi (ih _ _ _ _ _ _ _ hq)
theorem zs_istore_n {i : Fin 4} (ih : zSnd l G r n) (hd : decode (zB mi) pc = .ok ((.istore_n i), len)) (hA : zokA mi pc len (.istore_n i) w = true) (hq : zx r (zrun r n) (zrun r n) mi pc len (.istore_n i) w lv st h = some (v, g)) : zGo l G r mi v g pc lv st h := by
  obtain rfl := zA1 hA
  unfold zx at hq
  dsimp only at hq
  obtain ⟨x, t, rfl, hq2⟩ := zp1i_inv hq
  replace hq := hq2
  obtain ⟨hi, hq⟩ := zs1_inv hq
  exact zGo.store (fun hx hb a b c k => lv_istore_n hx hb hd rfl a b c k) hi (ih _ _ _ _ _ _ _ hq)
theorem zs_lstore {i : Nat} (ih : zSnd l G r n) (hd : decode (zB mi) pc = .ok ((.lstore i), len)) (hA : zokA mi pc len (.lstore i) w = true) (hq : zx r (zrun r n) (zrun r n) mi pc len (.lstore i) w lv st h = some (v, g)) : zGo l G r mi v g pc lv st h := by
  obtain rfl := zA2 hA
  unfold zx at hq
  dsimp only at hq
  obtain ⟨x, t, rfl, hq2⟩ := zp1l_inv hq
  replace hq := hq2
  obtain ⟨hi, hq⟩ := zs2_inv hq
  exact zGo.store2 (fun hx hb a b c k => lv_lstore hx hb hd a b c k) hi (ih _ _ _ _ _ _ _ hq)
theorem zs_lstore_n {i : Fin 4} (ih : zSnd l G r n) (hd : decode (zB mi) pc = .ok ((.lstore_n i), len)) (hA : zokA mi pc len (.lstore_n i) w = true) (hq : zx r (zrun r n) (zrun r n) mi pc len (.lstore_n i) w lv st h = some (v, g)) : zGo l G r mi v g pc lv st h := by
  obtain rfl := zA1 hA
  unfold zx at hq
  dsimp only at hq
  obtain ⟨x, t, rfl, hq2⟩ := zp1l_inv hq
  replace hq := hq2
  obtain ⟨hi, hq⟩ := zs2_inv hq
  exact zGo.store2 (fun hx hb a b c k => lv_lstore_n hx hb hd rfl a b c k) hi (ih _ _ _ _ _ _ _ hq)
theorem zs_astore {i : Nat} (ih : zSnd l G r n) (hd : decode (zB mi) pc = .ok ((.astore i), len)) (hA : zokA mi pc len (.astore i) w = true) (hq : zx r (zrun r n) (zrun r n) mi pc len (.astore i) w lv st h = some (v, g)) : zGo l G r mi v g pc lv st h := by
  obtain rfl := zA2 hA
  unfold zx at hq
  dsimp only at hq
  obtain ⟨x, t, rfl, hq2⟩ := zp1q_inv hq
  replace hq := hq2
  obtain ⟨hi, hq⟩ := zs1_inv hq
  cases x with
  | none => exact zGo.store (fun hx hb a b c k => lv_astoreN hx hb hd a b c k) hi (ih _ _ _ _ _ _ _ hq)
  | some x => exact zGo.store (fun hx hb a b c k => lv_astore hx hb hd a b c k) hi (ih _ _ _ _ _ _ _ hq)
theorem zs_astore_n {i : Fin 4} (ih : zSnd l G r n) (hd : decode (zB mi) pc = .ok ((.astore_n i), len)) (hA : zokA mi pc len (.astore_n i) w = true) (hq : zx r (zrun r n) (zrun r n) mi pc len (.astore_n i) w lv st h = some (v, g)) : zGo l G r mi v g pc lv st h := by
  obtain rfl := zA1 hA
  unfold zx at hq
  dsimp only at hq
  obtain ⟨x, t, rfl, hq2⟩ := zp1q_inv hq
  replace hq := hq2
  obtain ⟨hi, hq⟩ := zs1_inv hq
  cases x with
  | none => exact zGo.store (fun hx hb a b c k => lv_astore_nN hx hb hd rfl a b c k) hi (ih _ _ _ _ _ _ _ hq)
  | some x => exact zGo.store (fun hx hb a b c k => lv_astore_n hx hb hd rfl a b c k) hi (ih _ _ _ _ _ _ _ hq)
theorem zs_iinc {i : Nat} {c : Int} (ih : zSnd l G r n) (hd : decode (zB mi) pc = .ok ((.iinc i c), len)) (hA : zokA mi pc len (.iinc i c) w = true) (hq : zx r (zrun r n) (zrun r n) mi pc len (.iinc i c) w lv st h = some (v, g)) : zGo l G r mi v g pc lv st h := by
  obtain rfl := zA3 hA
  unfold zx at hq
  dsimp only at hq
  obtain ⟨x, e, hq⟩ := zli_inv hq
  obtain ⟨hi, hq⟩ := zs1_inv hq
  obtain ⟨j, hj⟩ := List.getElem?_of_mem (zal_mem.mpr e)
  exact zGo.rowL (fun hF hL kk => lv_iinc hF.1 hF.2.1 hd hL.has hj rfl (by rw [← hL.2.1]; exact hi) rfl fun ls2 hs => kk ls2 (hL.of1 hi hs)) (ih _ _ _ _ _ _ _ hq)
theorem zs_if_eq {off : Int} (ih : zSnd l G r n) (hd : decode (zB mi) pc = .ok ((.ifCond .eq off), len)) (hA : zokA mi pc len (.ifCond .eq off) w = true) (hq : zx r (zrun r n) (zrun r n) mi pc len (.ifCond .eq off) w lv st h = some (v, g)) : zGo l G r mi v g pc lv st h := by
  obtain rfl := zA3 hA
  unfold zx at hq
  dsimp only at hq
  obtain ⟨x, t, rfl, hq2⟩ := zp1i_inv hq
  replace hq := hq2
  by_cases c : x = 0
  · rw [if_pos c] at hq
    exact (ih _ _ _ _ _ _ _ hq).row fun hF _ _ _ _ k => lv_if_eq hF.1 hF.2.1 hd (zAdc hA) (fun _ => k) (fun c' => absurd c c')
  · rw [if_neg c] at hq
    exact (ih _ _ _ _ _ _ _ hq).row fun hF _ _ _ _ k => lv_if_eq hF.1 hF.2.1 hd (zAdc hA) (fun c' => absurd c' c) (fun _ => k)
theorem zs_if_ne {off : Int} (ih : zSnd l G r n) (hd : decode (zB mi) pc = .ok ((.ifCond .ne off), len)) (hA : zokA mi pc len (.ifCond .ne off) w = true) (hq : zx r (zrun r n) (zrun r n) mi pc len (.ifCond .ne off) w lv st h = some (v, g)) : zGo l G r mi v g pc lv st h := by
  obtain rfl := zA3 hA
  unfold zx at hq
  dsimp only at hq
  obtain ⟨x, t, rfl, hq2⟩ := zp1i_inv hq
  replace hq := hq2
  by_cases c : x = 0
  · rw [if_pos c] at hq
    exact (ih _ _ _ _ _ _ _ hq).row fun hF _ _ _ _ k => lv_if_ne hF.1 hF.2.1 hd (zAdc hA) (fun c' => absurd c' (fun q => q c)) (fun _ => k)
  · rw [if_neg c] at hq
    exact (ih _ _ _ _ _ _ _ hq).row fun hF _ _ _ _ k => lv_if_ne hF.1 hF.2.1 hd (zAdc hA) (fun _ => k) (fun c' => absurd c' c)
theorem zs_if_lt {off : Int} (ih : zSnd l G r n) (hd : decode (zB mi) pc = .ok ((.ifCond .lt off), len)) (hA : zokA mi pc len (.ifCond .lt off) w = true) (hq : zx r (zrun r n) (zrun r n) mi pc len (.ifCond .lt off) w lv st h = some (v, g)) : zGo l G r mi v g pc lv st h := by
  obtain rfl := zA3 hA
  unfold zx at hq
  dsimp only at hq
  obtain ⟨x, t, rfl, hq2⟩ := zp1i_inv hq
  replace hq := hq2
  by_cases c : x < 0
  · rw [if_pos c] at hq
    exact (ih _ _ _ _ _ _ _ hq).row fun hF _ _ _ _ k => lv_if_lt hF.1 hF.2.1 hd (zAdc hA) (fun _ => k) (fun c' => absurd c c')
  · rw [if_neg c] at hq
    exact (ih _ _ _ _ _ _ _ hq).row fun hF _ _ _ _ k => lv_if_lt hF.1 hF.2.1 hd (zAdc hA) (fun c' => absurd c' c) (fun _ => k)
theorem zs_if_ge {off : Int} (ih : zSnd l G r n) (hd : decode (zB mi) pc = .ok ((.ifCond .ge off), len)) (hA : zokA mi pc len (.ifCond .ge off) w = true) (hq : zx r (zrun r n) (zrun r n) mi pc len (.ifCond .ge off) w lv st h = some (v, g)) : zGo l G r mi v g pc lv st h := by
  obtain rfl := zA3 hA
  unfold zx at hq
  dsimp only at hq
  obtain ⟨x, t, rfl, hq2⟩ := zp1i_inv hq
  replace hq := hq2
  by_cases c : x < 0
  · rw [if_pos c] at hq
    exact (ih _ _ _ _ _ _ _ hq).row fun hF _ _ _ _ k => lv_if_ge hF.1 hF.2.1 hd (zAdc hA) (fun c' => absurd c' (Int32.not_le.mpr c)) (fun _ => k)
  · rw [if_neg c] at hq
    exact (ih _ _ _ _ _ _ _ hq).row fun hF _ _ _ _ k => lv_if_ge hF.1 hF.2.1 hd (zAdc hA) (fun _ => k) (fun c' => absurd (Int32.not_lt.mp c) c')
theorem zs_if_gt {off : Int} (ih : zSnd l G r n) (hd : decode (zB mi) pc = .ok ((.ifCond .gt off), len)) (hA : zokA mi pc len (.ifCond .gt off) w = true) (hq : zx r (zrun r n) (zrun r n) mi pc len (.ifCond .gt off) w lv st h = some (v, g)) : zGo l G r mi v g pc lv st h := by
  obtain rfl := zA3 hA
  unfold zx at hq
  dsimp only at hq
  obtain ⟨x, t, rfl, hq2⟩ := zp1i_inv hq
  replace hq := hq2
  by_cases c : 0 < x
  · rw [if_pos c] at hq
    exact (ih _ _ _ _ _ _ _ hq).row fun hF _ _ _ _ k => lv_if_gt hF.1 hF.2.1 hd (zAdc hA) (fun _ => k) (fun c' => absurd c c')
  · rw [if_neg c] at hq
    exact (ih _ _ _ _ _ _ _ hq).row fun hF _ _ _ _ k => lv_if_gt hF.1 hF.2.1 hd (zAdc hA) (fun c' => absurd c' c) (fun _ => k)
theorem zs_if_le {off : Int} (ih : zSnd l G r n) (hd : decode (zB mi) pc = .ok ((.ifCond .le off), len)) (hA : zokA mi pc len (.ifCond .le off) w = true) (hq : zx r (zrun r n) (zrun r n) mi pc len (.ifCond .le off) w lv st h = some (v, g)) : zGo l G r mi v g pc lv st h := by
  obtain rfl := zA3 hA
  unfold zx at hq
  dsimp only at hq
  obtain ⟨x, t, rfl, hq2⟩ := zp1i_inv hq
  replace hq := hq2
  by_cases c : 0 < x
  · rw [if_pos c] at hq
    exact (ih _ _ _ _ _ _ _ hq).row fun hF _ _ _ _ k => lv_if_le hF.1 hF.2.1 hd (zAdc hA) (fun c' => absurd c' (Int32.not_le.mpr c)) (fun _ => k)
  · rw [if_neg c] at hq
    exact (ih _ _ _ _ _ _ _ hq).row fun hF _ _ _ _ k => lv_if_le hF.1 hF.2.1 hd (zAdc hA) (fun _ => k) (fun c' => absurd (Int32.not_lt.mp c) c')
theorem zs_ic_eq {off : Int} (ih : zSnd l G r n) (hd : decode (zB mi) pc = .ok ((.if_icmp .eq off), len)) (hA : zokA mi pc len (.if_icmp .eq off) w = true) (hq : zx r (zrun r n) (zrun r n) mi pc len (.if_icmp .eq off) w lv st h = some (v, g)) : zGo l G r mi v g pc lv st h := by
  obtain rfl := zA3 hA
  unfold zx at hq
  dsimp only at hq
  obtain ⟨x, y, t, rfl, hq2⟩ := zp2i_inv hq
  replace hq := hq2
  by_cases c : x = y
  · rw [if_pos c] at hq
    exact (ih _ _ _ _ _ _ _ hq).row fun hF _ _ _ _ k => lv_icmp_eq hF.1 hF.2.1 hd (zAdc hA) (fun _ => k) (fun c' => absurd c c')
  · rw [if_neg c] at hq
    exact (ih _ _ _ _ _ _ _ hq).row fun hF _ _ _ _ k => lv_icmp_eq hF.1 hF.2.1 hd (zAdc hA) (fun c' => absurd c' c) (fun _ => k)
theorem zs_ic_ne {off : Int} (ih : zSnd l G r n) (hd : decode (zB mi) pc = .ok ((.if_icmp .ne off), len)) (hA : zokA mi pc len (.if_icmp .ne off) w = true) (hq : zx r (zrun r n) (zrun r n) mi pc len (.if_icmp .ne off) w lv st h = some (v, g)) : zGo l G r mi v g pc lv st h := by
  obtain rfl := zA3 hA
  unfold zx at hq
  dsimp only at hq
  obtain ⟨x, y, t, rfl, hq2⟩ := zp2i_inv hq
  replace hq := hq2
  by_cases c : x = y
  · rw [if_pos c] at hq
    exact (ih _ _ _ _ _ _ _ hq).row fun hF _ _ _ _ k => lv_icmp_ne hF.1 hF.2.1 hd (zAdc hA) (fun c' => absurd c' (fun q => q c)) (fun _ => k)
  · rw [if_neg c] at hq
    exact (ih _ _ _ _ _ _ _ hq).row fun hF _ _ _ _ k => lv_icmp_ne hF.1 hF.2.1 hd (zAdc hA) (fun _ => k) (fun c' => absurd c' c)
theorem zs_ic_lt {off : Int} (ih : zSnd l G r n) (hd : decode (zB mi) pc = .ok ((.if_icmp .lt off), len)) (hA : zokA mi pc len (.if_icmp .lt off) w = true) (hq : zx r (zrun r n) (zrun r n) mi pc len (.if_icmp .lt off) w lv st h = some (v, g)) : zGo l G r mi v g pc lv st h := by
  obtain rfl := zA3 hA
  unfold zx at hq
  dsimp only at hq
  obtain ⟨x, y, t, rfl, hq2⟩ := zp2i_inv hq
  replace hq := hq2
  by_cases c : x < y
  · rw [if_pos c] at hq
    exact (ih _ _ _ _ _ _ _ hq).row fun hF _ _ _ _ k => lv_icmp_lt hF.1 hF.2.1 hd (zAdc hA) (fun _ => k) (fun c' => absurd c c')
  · rw [if_neg c] at hq
    exact (ih _ _ _ _ _ _ _ hq).row fun hF _ _ _ _ k => lv_icmp_lt hF.1 hF.2.1 hd (zAdc hA) (fun c' => absurd c' c) (fun _ => k)
theorem zs_ic_ge {off : Int} (ih : zSnd l G r n) (hd : decode (zB mi) pc = .ok ((.if_icmp .ge off), len)) (hA : zokA mi pc len (.if_icmp .ge off) w = true) (hq : zx r (zrun r n) (zrun r n) mi pc len (.if_icmp .ge off) w lv st h = some (v, g)) : zGo l G r mi v g pc lv st h := by
  obtain rfl := zA3 hA
  unfold zx at hq
  dsimp only at hq
  obtain ⟨x, y, t, rfl, hq2⟩ := zp2i_inv hq
  replace hq := hq2
  by_cases c : x < y
  · rw [if_pos c] at hq
    exact (ih _ _ _ _ _ _ _ hq).row fun hF _ _ _ _ k => lv_icmp_ge hF.1 hF.2.1 hd (zAdc hA) (fun c' => absurd c' (Int32.not_le.mpr c)) (fun _ => k)
  · rw [if_neg c] at hq
    exact (ih _ _ _ _ _ _ _ hq).row fun hF _ _ _ _ k => lv_icmp_ge hF.1 hF.2.1 hd (zAdc hA) (fun _ => k) (fun c' => absurd (Int32.not_lt.mp c) c')
theorem zs_ic_gt {off : Int} (ih : zSnd l G r n) (hd : decode (zB mi) pc = .ok ((.if_icmp .gt off), len)) (hA : zokA mi pc len (.if_icmp .gt off) w = true) (hq : zx r (zrun r n) (zrun r n) mi pc len (.if_icmp .gt off) w lv st h = some (v, g)) : zGo l G r mi v g pc lv st h := by
  obtain rfl := zA3 hA
  unfold zx at hq
  dsimp only at hq
  obtain ⟨x, y, t, rfl, hq2⟩ := zp2i_inv hq
  replace hq := hq2
  by_cases c : y < x
  · rw [if_pos c] at hq
    exact (ih _ _ _ _ _ _ _ hq).row fun hF _ _ _ _ k => lv_icmp_gt hF.1 hF.2.1 hd (zAdc hA) (fun _ => k) (fun c' => absurd c c')
  · rw [if_neg c] at hq
    exact (ih _ _ _ _ _ _ _ hq).row fun hF _ _ _ _ k => lv_icmp_gt hF.1 hF.2.1 hd (zAdc hA) (fun c' => absurd c' c) (fun _ => k)
theorem zs_ic_le {off : Int} (ih : zSnd l G r n) (hd : decode (zB mi) pc = .ok ((.if_icmp .le off), len)) (hA : zokA mi pc len (.if_icmp .le off) w = true) (hq : zx r (zrun r n) (zrun r n) mi pc len (.if_icmp .le off) w lv st h = some (v, g)) : zGo l G r mi v g pc lv st h := by
  obtain rfl := zA3 hA
  unfold zx at hq
  dsimp only at hq
  obtain ⟨x, y, t, rfl, hq2⟩ := zp2i_inv hq
  replace hq := hq2
  by_cases c : y < x
  · rw [if_pos c] at hq
    exact (ih _ _ _ _ _ _ _ hq).row fun hF _ _ _ _ k => lv_icmp_le hF.1 hF.2.1 hd (zAdc hA) (fun c' => absurd c' (Int32.not_le.mpr c)) (fun _ => k)
  · rw [if_neg c] at hq
    exact (ih _ _ _ _ _ _ _ hq).row fun hF _ _ _ _ k => lv_icmp_le hF.1 hF.2.1 hd (zAdc hA) (fun _ => k) (fun c' => absurd (Int32.not_lt.mp c) c')
theorem zs_goto {off : Int} (ih : zSnd l G r n) (hd : decode (zB mi) pc = .ok ((.goto off), len)) (hA : zokA mi pc len (.goto off) w = true) (hq : zx r (zrun r n) (zrun r n) mi pc len (.goto off) w lv st h = some (v, g)) : zGo l G r mi v g pc lv st h := by
  obtain rfl := zA3 hA
  unfold zx at hq
  dsimp only at hq
  exact zGo.rowL (fun hF hL kk => lv_goto hF.1 hF.2.1 hd (zAdc hA) (kk _ hL.forget)) (ih _ _ _ _ _ _ _ hq)
theorem zs_ifnull {off : Int} (ih : zSnd l G r n) (hd : decode (zB mi) pc = .ok ((.ifnull off), len)) (hA : zokA mi pc len (.ifnull off) w = true) (hq : zx r (zrun r n) (zrun r n) mi pc len (.ifnull off) w lv st h = some (v, g)) : zGo l G r mi v g pc lv st h := by
  obtain rfl := zA3 hA
  unfold zx at hq
  dsimp only at hq
  obtain ⟨x, t, rfl, hq2⟩ := zp1q_inv hq
  replace hq := hq2
  cases x with
  | none => exact (ih _ _ _ _ _ _ _ hq).row fun hF _ _ _ _ k => lv_ifnullN hF.1 hF.2.1 hd (zAdc hA) k
  | some x => exact (ih _ _ _ _ _ _ _ hq).row fun hF _ _ _ _ k => lv_ifnull hF.1 hF.2.1 hd k
theorem zs_ifnonnull {off : Int} (ih : zSnd l G r n) (hd : decode (zB mi) pc = .ok ((.ifnonnull off), len)) (hA : zokA mi pc len (.ifnonnull off) w = true) (hq : zx r (zrun r n) (zrun r n) mi pc len (.ifnonnull off) w lv st h = some (v, g)) : zGo l G r mi v g pc lv st h := by
  obtain rfl := zA3 hA
  unfold zx at hq
  dsimp only at hq
  obtain ⟨x, t, rfl, hq2⟩ := zp1q_inv hq
  replace hq := hq2
  cases x with
  | none => exact (ih _ _ _ _ _ _ _ hq).row fun hF _ _ _ _ k => lv_ifnonnullN hF.1 hF.2.1 hd k
  | some x => exact (ih _ _ _ _ _ _ _ hq).row fun hF _ _ _ _ k => lv_ifnonnull hF.1 hF.2.1 hd (zAdc hA) k
theorem zofI {z : Int} (h1 : -2000 ≤ z) (h2 : z ≤ 2000) : (Int32.ofInt z).toInt = z := Int32.toInt_ofInt_of_le (by simp [Int32.minValue] <;> omega) (by omega)
theorem zts_inv {X : Type} {k : Nat → Option X} {x : Int32} {d : Int} {q : X} : ∀ {os : List Int} {lo : Int}, -1000 ≤ lo → lo + os.length ≤ 2000 → zts pc k x lo os d = some q →
    (∃ (j : Nat) (o : Int), os[j]? = some o ∧ x.toInt = lo + j ∧ k (zt pc o) = some q) ∨ (x.toInt < lo ∨ lo + os.length ≤ x.toInt) ∧ k (zt pc d) = some q
  | [], lo, _, _, h => Or.inr ⟨by simp; omega, h⟩
  | o :: os, lo, h1, h2, h => by
    simp only [List.length_cons] at h2
    simp only [zts] at h
    split at h
    · rename_i c
      refine Or.inl ⟨0, o, rfl, ?_, h⟩
      rw [c, zofI (by omega) (by omega)]; simp
    · rename_i c
      have hne : x.toInt ≠ lo := fun e => c (by rw [← e, Int32.ofInt_toInt])
      rcases zts_inv (by omega) (by omega) h with ⟨j, o', e1, e2, e3⟩ | ⟨e1, e2⟩
      · exact Or.inl ⟨j + 1, o', by simpa using e1, by rw [e2]; omega, e3⟩
      · refine Or.inr ⟨?_, e2⟩
        simp only [List.length_cons]
        omega
theorem zls_inv {X : Type} {k : Nat → Option X} {x : Int32} {d : Int} {q : X} : ∀ {os : List (Int × Int)}, (∀ z ∈ os, -1000 ≤ z.1 ∧ z.1 ≤ 1000) → zls pc k x os d = some q → k (zt pc (Op.lookupswitch.offset os d x.toInt)) = some q
  | [], _, h => h
  | (a, b) :: os, hr, h => by
    simp only [zls] at h
    rw [Op.lookupswitch.offset_cons]
    have h1 := hr (a, b) List.mem_cons_self
    dsimp only at h1
    split at h
    · rename_i c
      rw [if_pos (by rw [c, zofI (by omega) (by omega)])]
      exact h
    · rename_i c
      rw [if_neg (fun e => c (by rw [e, Int32.ofInt_toInt]))]
      exact zls_inv (fun z hz => hr z (List.mem_cons_of_mem _ hz)) h
theorem zt_eq {o : Int} (h : 0 ≤ (pc : Int) + o) : (pc : Int) + o = (zt pc o : Int) := by unfold zt; omega
theorem zs_tsw {d lo hi : Int} {os : Array Int} (ih : zSnd l G r n) (hd : decode (zB mi) pc = .ok ((.tableswitch d lo hi os), len)) (hA : zokA mi pc len (.tableswitch d lo hi os) w = true) (hq : zx r (zrun r n) (zrun r n) mi pc len (.tableswitch d lo hi os) w lv st h = some (v, g)) : zGo l G r mi v g pc lv st h := by
  unfold zx at hq
  dsimp only at hq
  obtain ⟨x, t, rfl, hq2⟩ := zp1i_inv hq
  replace hq := hq2
  have hA : (decide (0 ≤ (pc : Int) + d ∧ hi + 1 = lo + os.toList.length ∧ -1000 ≤ lo ∧ lo ≤ 1000 ∧ os.toList.length ≤ 1000) && os.toList.all fun x => decide (0 ≤ (pc : Int) + x)) = true := hA
  rw [Bool.and_eq_true] at hA
  obtain ⟨h1, h2⟩ := hA
  obtain ⟨h3, h4, h5, h6, h7⟩ := of_decide_eq_true h1
  rcases zts_inv (by omega) (by omega) hq with ⟨j, o, e1, e2, e3⟩ | ⟨e1, e2⟩
  · have hj := (List.getElem?_eq_some_iff.mp e1).1
    have ho := of_decide_eq_true (List.all_eq_true.mp h2 o (List.mem_of_getElem? e1))
    exact (ih _ _ _ _ _ _ _ e3).row fun hF _ _ _ _ k => lv_tableIn hF.1 hF.2.1 hd (by omega) (by omega) (by rw [← Array.getElem?_toList, ← e1]; congr 1; omega) (zt_eq ho) k
  · exact (ih _ _ _ _ _ _ _ e2).row fun hF _ _ _ _ k => lv_tableOut hF.1 hF.2.1 hd (by omega) (zt_eq h3) k
theorem zs_lsw {d : Int} {ps : Array (Int × Int)} (ih : zSnd l G r n) (hd : decode (zB mi) pc = .ok ((.lookupswitch d ps), len)) (hA : zokA mi pc len (.lookupswitch d ps) w = true) (hq : zx r (zrun r n) (zrun r n) mi pc len (.lookupswitch d ps) w lv st h = some (v, g)) : zGo l G r mi v g pc lv st h := by
  unfold zx at hq
  dsimp only at hq
  obtain ⟨x, t, rfl, hq2⟩ := zp1i_inv hq
  replace hq := hq2
  have hA : (decide (0 ≤ (pc : Int) + d) && ps.toList.all (fun x => decide (0 ≤ (pc : Int) + x.2 ∧ -1000 ≤ x.1 ∧ x.1 ≤ 1000)) && (ps.toList.zip (ps.toList.drop 1)).all (fun (a, next) => a.1 < next.1)) = true := hA
  rw [Bool.and_eq_true, Bool.and_eq_true] at hA
  obtain ⟨⟨h1, h2⟩, h3⟩ := hA
  have h1 := of_decide_eq_true h1
  have h2 : ∀ z ∈ ps.toList, 0 ≤ (pc : Int) + z.2 ∧ -1000 ≤ z.1 ∧ z.1 ≤ 1000 := fun z hz => of_decide_eq_true (List.all_eq_true.mp h2 z hz)
  have e := zls_inv (fun z hz => (h2 z hz).2) hq
  have ht : ∀ (os : List (Int × Int)), (∀ z ∈ os, 0 ≤ (pc : Int) + z.2) → 0 ≤ (pc : Int) + Op.lookupswitch.offset os d x.toInt := by
    intro os
    induction os with
    | nil => exact fun _ => h1
    | cons a l il =>
      intro hz
      rw [Op.lookupswitch.offset_cons]
      split
      · exact hz a List.mem_cons_self
      · exact il fun z hm => hz z (List.mem_cons_of_mem _ hm)
  exact (ih _ _ _ _ _ _ _ e).row fun hF _ _ _ _ k => lv_lookup hF.1 hF.2.1 hd h3 rfl (zt_eq (ht _ fun z hz => (h2 z hz).1)) k
end STEP
end
section
/-! fields, arrays, new cells -/
section STEPH
variable {l : Launch} {G : zG} {r : zE} {n : Nat} {mi pc len : Nat} {w : zL} {lv : List (Option Value)} {st : List Value} {h g : zH} {v : Option Value} {u : List Nat} {ix : Nat}
theorem zr_get {p : Program} {l : Launch} {e : Env} {R : Room} {s : State} {m : MethodId} {args : Array Value} {below : List Frame} {meth : Method} {c : Code} {H : Heap} {locs : List Loc} {cells slots : Nat} {Q : State → Prop} {ls : Array Slot} {rest : List Value} {a : Nat} {fs : List Value} {x : Value} (hF : zFix G p s m args meth c mi) (hH : zHS G r s h H) (hz : zget r h a = some (.inr (.inr (w.1, fs)))) (hv : fs[w.2.1]? = some x) (hB : zokB mi (.getfield ix) w u = true) (hd : decode (zB mi) pc = .ok (.getfield ix, 3))
    (kk : W p l e R s m args below meth c H locs cells slots Q (F0 m (pc + 3) ls (x :: rest))) : W p l e R s m args below meth c H locs cells slots Q (F0 m pc ls (.ref a :: rest)) := by
  simp only [zokB] at hB
  split at hB
  · rename_i q hc
    rw [Bool.and_eq_true, Bool.or_eq_true] at hB
    obtain ⟨hk, hB⟩ := hB
    have hk := of_decide_eq_true hk
    obtain ⟨hin, -, -, hdecl, -, -, -, -⟩ := zcls_f hc
    obtain ⟨hx, hb, -, hown, hts, hK, -⟩ := hF
    have hat : va_at G.1 zcls (a, .inr (w.1, fs)) H := hH.at hz
    have hsame : ∀ x, s.fieldFound? (q.2.1 w.2.1).1 (q.2.1 w.2.1).2.1 (q.2.1 w.2.1).2.2.1 = some x → s.fieldFound? q.1 (q.2.1 w.2.1).2.1 (q.2.1 w.2.1).2.2.1 = some x := by
      rw [hdecl _ hk]; exact fun _ h => h
    rcases hB with hB | hB
    · exact va_get hx hb hts hin hown hK.1 (zP1 hat) 0 rfl hc w.2.1 hk (hts _ (zgt_of (zmem_in hB) rfl)) hsame hv hd kk
    · exact va_getN hx hb hts hin hown hK.1 (zP1 hat) 0 rfl hc w.2.1 hk (va_Nw.use rfl (hK.2 _ (zmem_in hB) rfl)) hsame hv hd kk
  · cases hB
theorem zs_getfield (ih : zSnd l G r n) (hd : decode (zB mi) pc = .ok (.getfield ix, len)) (hA : zokA mi pc len (.getfield ix) w = true) (hB : zokB mi (.getfield ix) w u = true) (hq : zx r (zrun r n) (zrun r n) mi pc len (.getfield ix) w lv st h = some (v, g)) : zGo l G r mi v g pc lv st h := by
  obtain rfl := zA3 hA
  obtain ⟨a, t, rfl, hq2⟩ := zp1r_inv hq
  replace hq := hq2
  split at hq
  · obtain ⟨x, e, hq⟩ := zbind_inv hq
    obtain ⟨fs, hz, hv⟩ := zgI_inv e
    exact (ih _ _ _ _ _ _ _ hq).row fun hF _ hH _ _ k => zr_get hF hH hz hv hB hd k
  · obtain ⟨x, e, hq⟩ := zbind_inv hq
    obtain ⟨fs, hz, hv⟩ := zgL_inv e
    exact (ih _ _ _ _ _ _ _ hq).row fun hF _ hH _ _ k => zr_get hF hH hz hv hB hd k
  · obtain ⟨x, e, hq⟩ := zbind_inv hq
    obtain ⟨fs, hz, hv⟩ := zgR_inv e
    exact (ih _ _ _ _ _ _ _ hq).row fun hF _ hH _ _ k => zr_get hF hH hz hv hB hd k
theorem zs_put {a : Nat} {x : Value} {t : List Value} {h2 : zH} (ih : zSnd l G r n) (hd : decode (zB mi) pc = .ok (.putfield ix, 3)) (hB : zokB mi (.putfield ix) w u = true) (e : zpF r h a w.1 w.2.1 x = some h2) (hn : ∀ q : vw_C, zcls[w.1]? = some q → narrow (zty w.1 w.2.1) x = x ∧ fits (zty w.1 w.2.1) x = true) (hq : zrun r n mi (pc + 3) lv t h2 = some (v, g)) : zGo l G r mi v g pc lv (x :: .ref a :: t) h := by
  obtain ⟨fs, hz, hl, rfl⟩ := zpF_inv e
  simp only [zokB] at hB
  split at hB
  · rename_i q hc
    have hn := hn q hc
    rw [Bool.and_eq_true, Bool.and_eq_true] at hB
    obtain ⟨⟨hk, hB⟩, -⟩ := hB
    have hk := of_decide_eq_true hk
    refine zGo.write (c1 := .inr (.inr (w.1, fs.set w.2.1 x))) hz rfl (fun hF hL hH _ _ kk => ?_) (ih _ _ _ _ _ _ _ hq)
    obtain ⟨hx, hb, -, hown, hts, hK, hin⟩ := hF
    refine zr_put hx hb hts hown hK.1 (hH.at hz) hc hk ?_ hn.1 hn.2 hl hd kk
    rw [Bool.or_eq_true, Bool.and_eq_true, Bool.and_eq_true, Bool.or_eq_true] at hB
    rcases hB with ⟨hB, hf⟩ | ⟨hB, hf⟩
    · refine Or.inl ⟨hts _ (zgt_of (zmem_in hB) rfl), ?_⟩
      rcases hf with hf | hf
      · exact Or.inl (of_decide_eq_true hf)
      · have hf := of_decide_eq_true hf
        exact Or.inr ⟨hf.1, hin hf.2⟩
    · exact Or.inr ⟨va_Nw.use rfl (hK.2 _ (zmem_in hB) rfl), of_decide_eq_true hf⟩
  · cases hB
theorem zs_putfield (ih : zSnd l G r n) (hd : decode (zB mi) pc = .ok (.putfield ix, len)) (hA : zokA mi pc len (.putfield ix) w = true) (hB : zokB mi (.putfield ix) w u = true) (hq : zx r (zrun r n) (zrun r n) mi pc len (.putfield ix) w lv st h = some (v, g)) : zGo l G r mi v g pc lv st h := by
  obtain rfl := zA3 hA
  have hB2 := hB
  simp only [zokB] at hB2
  split at hB2
  · rename_i q0 hc0
    rw [Bool.and_eq_true] at hB2
    have hty := hB2.2
    change (match w.2.2.1 with
      | 0 => zpia st fun a x t => (zpF r h a w.1 w.2.1 (.int x)).bind fun h => zrun r n mi (pc + 3) lv t h
      | 1 => zpla st fun a x t => (zpF r h a w.1 w.2.1 (.long x)).bind fun h => zrun r n mi (pc + 3) lv t h
      | _ => zpra st fun a x t => (zpF r h a w.1 w.2.1 (.ref x)).bind fun h => zrun r n mi (pc + 3) lv t h) = some (v, g) at hq
    split at hq
    · rename_i hw
      rw [hw] at hty
      have hty := of_decide_eq_true hty
      obtain ⟨a, x, t, rfl, hq2⟩ := zpia_inv hq
      replace hq := hq2
      obtain ⟨h2, e, hq⟩ := zbind_inv hq
      exact zs_put ih hd hB e (fun _ _ => by rw [hty]; exact ⟨rfl, rfl⟩) hq
    · rename_i hw
      rw [hw] at hty
      have hty := of_decide_eq_true hty
      obtain ⟨a, x, t, rfl, hq2⟩ := zpla_inv hq
      replace hq := hq2
      obtain ⟨h2, e, hq⟩ := zbind_inv hq
      exact zs_put ih hd hB e (fun _ _ => by rw [hty]; exact ⟨rfl, rfl⟩) hq
    · rename_i hw0 hw1
      obtain ⟨a, x, t, rfl, hq2⟩ := zpra_inv hq
      replace hq := hq2
      obtain ⟨h2, e, hq⟩ := zbind_inv hq
      refine zs_put ih hd hB e (fun _ _ => ?_) hq
      split at hty
      · rename_i hw2; exact absurd hw2 hw0
      · rename_i hw2; exact absurd hw2 hw1
      · split at hty
        · rename_i hc; rw [hc]; exact ⟨rfl, rfl⟩
        · rename_i hc; rw [hc]; exact ⟨rfl, rfl⟩
        · cases hty
  · cases hB2
theorem zs_getstatic (ih : zSnd l G r n) (hd : decode (zB mi) pc = .ok (.getstatic ix, len)) (hA : zokA mi pc len (.getstatic ix) w = true) (hB : zokB mi (.getstatic ix) w u = true) (hq : zx r (zrun r n) (zrun r n) mi pc len (.getstatic ix) w lv st h = some (v, g)) : zGo l G r mi v g pc lv st h := by
  obtain rfl := zA3 hA
  simp only [zokB] at hB
  split at hB
  · rename_i q hc
    refine (ih _ _ _ _ _ _ _ hq).row fun hF _ hH _ _ k => ?_
    obtain ⟨cf, kf, fi, f, a, cell, h1, h2, h3, h4, h5, h6, h7, h8⟩ := hH.2.2.2 _ q hc
    obtain ⟨hx, hb, -, hown, hts, hK, -⟩ := hF
    rw [Bool.or_eq_true] at hB
    rcases hB with hB | hB
    · exact W.gets hx hb hown (hts _ (zgt_of (zmem_in hB) rfl)) h1 h2 h3 h4 h5 (fun e => by rw [e] at h6; cases h6) h7 rfl hd k
    · exact va_WgetsN hx hb hown (va_Nw.use rfl (hK.2 _ (zmem_in hB) rfl)) h1 h2 h3 h4 h5 (fun e => by rw [e] at h6; cases h6) h7 rfl hd k
  · cases hB
theorem zs_new (ih : zSnd l G r n) (hd : decode (zB mi) pc = .ok (.new ix, len)) (hA : zokA mi pc len (.new ix) w = true) (hB : zokB mi (.new ix) w u = true) (hq : zx r (zrun r n) (zrun r n) mi pc len (.new ix) w lv st h = some (v, g)) : zGo l G r mi v g pc lv st h := by
  obtain rfl := zA3 hA
  simp only [zokB] at hB
  split at hB
  · rename_i q hc
    have hz : zcs (.inr (.inr (w.1, zdf w.1))) = q.2.2 := by simp only [zcs, hc]; rfl
    refine zGo.make (c1 := .inr (.inr (w.1, zdf w.1))) (fun hF hL hH hcl hsl kk => ?_) (ih _ _ _ _ _ _ _ hq)
    obtain ⟨hx, hb, -, hown, hts, hK, -⟩ := hF
    rw [hz] at hsl kk
    refine zr_new hx hb hts hown (hts _ (zgt_of (zmem_in hB) rfl)) hK.1 hc hcl hsl hd fun H1 g1 g2 g3 => ?_
    have k2 := kk H1 g1 g2 g3
    rw [← hH.1] at k2
    exact k2
  · cases hB
theorem zs_newarray (ih : zSnd l G r n) (hd : decode (zB mi) pc = .ok (.newarray .int, len)) (hA : zokA mi pc len (.newarray .int) w = true) (hq : zx r (zrun r n) (zrun r n) mi pc len (.newarray .int) w lv st h = some (v, g)) : zGo l G r mi v g pc lv st h := by
  obtain rfl := zA2 hA
  obtain ⟨x, t, rfl, hq2⟩ := zp1i_inv hq
  replace hq := hq2
  obtain ⟨hc, hq⟩ := zifn_inv hq
  refine zGo.make (c1 := .inl (x.toNatClampNeg, fun _ => 0)) (fun hF hL hH hcl hsl kk => ?_) (ih _ _ _ _ _ _ _ hq)
  obtain ⟨hx, hb, -, hown, hts, hK, -⟩ := hF
  refine zr_newa (D := G.1) hx hb (hts _ (zgt_of (by decide +kernel) rfl)) (hK.1.2 0 _ rfl).2 (fun q => hc (Or.inl q)) (by omega) hcl hsl hd fun H1 g1 g2 g3 => ?_
  have k2 := kk H1 g1 g2 g3
  rw [← hH.1] at k2
  exact k2
theorem zaR {s : State} {c : Nat} {q : vw_C} (hK : zKS G s) (hw : c = 4 ∨ c = 2) (hc : zcls[c]? = some q) : ArrOfT s (G.2.2 c) (.object q.1) ∧ va_RA s (G.2.2 c) (.object q.1) := by
  rcases hw with rfl | rfl
  · cases hc; exact hK.1.2 1 _ rfl
  · cases hc; exact hK.1.2 2 _ rfl
theorem zs_anewarray (ih : zSnd l G r n) (hd : decode (zB mi) pc = .ok (.anewarray ix, len)) (hA : zokA mi pc len (.anewarray ix) w = true) (hB : zokB mi (.anewarray ix) w u = true) (hq : zx r (zrun r n) (zrun r n) mi pc len (.anewarray ix) w lv st h = some (v, g)) : zGo l G r mi v g pc lv st h := by
  obtain rfl := zA3 hA
  obtain ⟨x, t, rfl, hq2⟩ := zp1i_inv hq
  replace hq := hq2
  obtain ⟨hcc, hq⟩ := zifn_inv hq
  simp only [zokB] at hB
  split at hB
  · rename_i q hc
    rw [Bool.and_eq_true, Bool.and_eq_true] at hB
    obtain ⟨⟨hB1, hB2⟩, hB3⟩ := hB
    have hB3 := of_decide_eq_true hB3
    refine zGo.make (c1 := .inr (.inl (w.1, x.toNatClampNeg, fun _ => none))) (fun hF hL hH hcl hsl kk => ?_) (ih _ _ _ _ _ _ _ hq)
    obtain ⟨hx, hb, -, hown, hts, hK, -⟩ := hF
    obtain ⟨kA, comp, -, -, -, hnm⟩ := (zaR hK hB3 hc).2
    refine zr_newq (D := G.1) hx hb hown (hts _ (zgt_of (zmem_in hB1) rfl)) (va_AO.use (hK.2 _ (zmem_in hB2) rfl)) hnm (fun q => hcc (Or.inl q)) (by omega) hcl hsl hd fun H1 g1 g2 g3 => ?_
    have k2 := kk H1 g1 g2 g3
    rw [← hH.1] at k2
    exact k2
  · cases hB
theorem zs_iaload (ih : zSnd l G r n) (hd : decode (zB mi) pc = .ok (.iaload, len)) (hA : zokA mi pc len .iaload w = true) (hq : zx r (zrun r n) (zrun r n) mi pc len .iaload w lv st h = some (v, g)) : zGo l G r mi v g pc lv st h := by
  obtain rfl := zA1 hA
  obtain ⟨a, i, t, rfl, hq2⟩ := zpia_inv hq
  replace hq := hq2
  obtain ⟨x, e, hq⟩ := zbind_inv hq
  obtain ⟨N, f, hz, hin, rfl⟩ := zaI_inv e
  refine (ih _ _ _ _ _ _ _ hq).row fun hF _ hH _ _ k => ?_
  obtain ⟨hx, hb, -, hown, hts, hK, -⟩ := hF
  rcases hz with hz | ⟨ha, hz⟩
  · have hat : va_at G.1 zcls (a, .inl (G.2.1, N, .inl f)) _ := hH.at hz
    exact va_iald hx hb hK.1 (zP1 hat) 0 0 rfl rfl hin hd k
  · obtain ⟨cell, h1, h2, h3, h4, h5, h6, h7⟩ := hH.2.2.1 a _ hz
    have hlt : i.toNatClampNeg < N := Nat.not_le.mp fun q => hin (Or.inr q)
    exact W.iald hx hb h1 h2 h3 (fun q => q.elim (fun q => hin (Or.inl q)) (fun q => by dsimp only at h4; omega)) (h6 _ hlt) rfl rfl hd k
theorem zs_caload (ih : zSnd l G r n) (hd : decode (zB mi) pc = .ok (.caload, len)) (hA : zokA mi pc len .caload w = true) (hq : zx r (zrun r n) (zrun r n) mi pc len .caload w lv st h = some (v, g)) : zGo l G r mi v g pc lv st h := by
  obtain rfl := zA1 hA
  obtain ⟨a, i, t, rfl, hq2⟩ := zpia_inv hq
  replace hq := hq2
  obtain ⟨x, e, hq⟩ := zbind_inv hq
  obtain ⟨N, f, ⟨ha, hz⟩, hin, rfl⟩ := zaC_inv e
  refine (ih _ _ _ _ _ _ _ hq).row fun hF _ hH _ _ k => ?_
  obtain ⟨hx, hb, -, hown, hts, hK, -⟩ := hF
  obtain ⟨cell, h1, h2, h3, h4, h5, h6, h7⟩ := hH.2.2.1 a _ hz
  have hlt : i.toNatClampNeg < N := Nat.not_le.mp fun q => hin (Or.inr q)
  exact W.cald hx hb h1 h2 h3 (fun q => q.elim (fun q => hin (Or.inl q)) (fun q => by dsimp only at h4; omega)) (h6 _ hlt) rfl rfl hd k
theorem zs_aaload (ih : zSnd l G r n) (hd : decode (zB mi) pc = .ok (.aaload, len)) (hA : zokA mi pc len .aaload w = true) (hq : zx r (zrun r n) (zrun r n) mi pc len .aaload w lv st h = some (v, g)) : zGo l G r mi v g pc lv st h := by
  obtain rfl := zA1 hA
  obtain ⟨a, i, t, rfl, hq2⟩ := zpia_inv hq
  replace hq := hq2
  obtain ⟨x, e, hq⟩ := zbind_inv hq
  obtain ⟨c, N, f, hz, hc, hin, rfl⟩ := zaQ_inv e
  have hq2 : zrun r n mi (pc + 1) lv (va_rf (f i.toNatClampNeg) :: t) h = some (v, g) := by
    revert hq
    cases f i.toNatClampNeg <;> exact fun hq => hq
  refine (ih _ _ _ _ _ _ _ hq2).row fun hF _ hH _ _ k => ?_
  obtain ⟨hx, hb, -, hown, hts, hK, -⟩ := hF
  have hat : va_at G.1 zcls (a, .inl (G.2.2 c, N, .inr (.inr (.inr (.inr f))))) _ := hH.at hz
  rcases hc with rfl | rfl
  · exact va_aldq hx hb hK.1 (zP1 hat) 0 1 rfl rfl hin hd k
  · exact va_aldq hx hb hK.1 (zP1 hat) 0 2 rfl rfl hin hd k
theorem zs_iastore (ih : zSnd l G r n) (hd : decode (zB mi) pc = .ok (.iastore, len)) (hA : zokA mi pc len .iastore w = true) (hq : zx r (zrun r n) (zrun r n) mi pc len .iastore w lv st h = some (v, g)) : zGo l G r mi v g pc lv st h := by
  obtain rfl := zA1 hA
  obtain ⟨a, i, x, t, rfl, hq2⟩ := zpiia_inv hq
  replace hq := hq2
  obtain ⟨h2, e, hq⟩ := zbind_inv hq
  obtain ⟨N, f, hz, hin, rfl⟩ := zsI_inv e
  refine zGo.write (c1 := .inl (N, upd f i.toNatClampNeg x)) hz rfl (fun hF hL hH _ _ kk => ?_) (ih _ _ _ _ _ _ _ hq)
  obtain ⟨hx, hb, -, hown, hts, hK, -⟩ := hF
  exact zr_iast hx hb (hK.1.2 0 _ rfl).1 (hH.at hz) hin hd kk
theorem zs_aastore (ih : zSnd l G r n) (hd : decode (zB mi) pc = .ok (.aastore, len)) (hA : zokA mi pc len .aastore w = true) (hq : zx r (zrun r n) (zrun r n) mi pc len .aastore w lv st h = some (v, g)) : zGo l G r mi v g pc lv st h := by
  obtain rfl := zA1 hA
  obtain ⟨a, i, x, t, rfl, hq2⟩ := zpria_inv hq
  replace hq := hq2
  obtain ⟨h2, e, hq⟩ := zbind_inv hq
  obtain ⟨c, N, f, vs, hz, hc, hv, hin, rfl⟩ := zsQ_inv e
  refine zGo.write (c1 := .inr (.inl (c, N, va_up f i.toNatClampNeg (some x)))) hz rfl (fun hF hL hH _ _ kk => ?_) (ih _ _ _ _ _ _ _ hq)
  obtain ⟨hx, hb, -, hown, hts, hK, -⟩ := hF
  have hcl : ∃ q, zcls[c]? = some q := by rcases hc with rfl | rfl <;> exact ⟨_, rfl⟩
  obtain ⟨q, hcl⟩ := hcl
  exact zr_aast hx hb hK.1 (zaR hK hc hcl).2 (hH.at hz) (hH.at hv) hcl hin hd kk
theorem zs_alen (ih : zSnd l G r n) (hd : decode (zB mi) pc = .ok (.arraylength, len)) (hA : zokA mi pc len .arraylength w = true) (hq : zx r (zrun r n) (zrun r n) mi pc len .arraylength w lv st h = some (v, g)) : zGo l G r mi v g pc lv st h := by
  obtain rfl := zA1 hA
  obtain ⟨a, t, rfl, hq2⟩ := zp1r_inv hq
  replace hq := hq2
  obtain ⟨N, e, hq⟩ := zbind_inv hq
  refine (ih _ _ _ _ _ _ _ hq).row fun hF _ hH _ _ k => ?_
  obtain ⟨hx, hb, -, hown, hts, hK, -⟩ := hF
  rcases zaN_inv e with ⟨f, hz⟩ | ⟨c, f, hz, hc⟩ | ⟨b, f, ha, hz⟩
  · have hat : va_at G.1 zcls (a, .inl (G.2.1, N, .inl f)) _ := hH.at hz
    exact va_alen hx hb hK.1 (zP1 hat) 0 0 rfl rfl rfl hd k
  · have hat : va_at G.1 zcls (a, .inl (G.2.2 c, N, .inr (.inr (.inr (.inr f))))) _ := hH.at hz
    rcases hc with rfl | rfl
    · exact va_alen hx hb hK.1 (zP1 hat) 0 1 rfl rfl rfl hd k
    · exact va_alen hx hb hK.1 (zP1 hat) 0 2 rfl rfl rfl hd k
  · obtain ⟨cell, h1, h2, h3, h4, h5, h6, h7⟩ := hH.2.2.1 a _ hz
    exact W.alen (n := Int32.ofNat N) hx hb h1 h2 h5 rfl rfl hd k
end STEPH
end
section
/-! copies, numbers of Math, calls -/
section STEPC
variable {p : Program} {l : Launch} {e : Env} {R : Room} {s : State} {m : MethodId} {args : Array Value} {below : List Frame} {meth : Method} {c : Code} {H : Heap} {locs : List Loc} {cells slots : Nat} {Q : State → Prop}
variable {cc : ByteArray} {pc : Nat} {ls : Array Slot} {rest : List Value}
theorem zr_copy (hexec : p.tables.exec = Jvm.exec) (hb : c.code = cc) (hml : c.maxLocals = ls.size) {own : String} {index : Nat} (hown : s.vm.findClass own = some m.cls) (hlink : (Cond.methodLink own index arraycopyName).before args s = true) (hnat : (Cond.native arraycopyName).before args s = true) (hstat : (Cond.static arraycopyName).before args s = true) (hini : (Cond.initialized "java/lang/System").before args s = true)
    {cA : ClassId} (hA : ArrOfT s cA .int) {a0 a n0 n1 : Nat} {f g : Nat → Int32} (hc0 : H[a0]? = some (vp_cell cA (n0, .inl f))) (hc1 : H[a]? = some (vp_cell cA (n1, .inl g)))
    {sp dp n : Int32} (h1 : ¬ sp < 0) (h2 : ¬ dp < 0) (h3 : ¬ n < 0) (h4 : sp.toNatClampNeg + n.toNatClampNeg ≤ n0) (h5 : dp.toNatClampNeg + n.toNatClampNeg ≤ n1)
    (hframes : 1 ≤ R.frames) (hlocals : (rest.map fun v => v.category).sum + (nativeFrameWords "java/lang/System" "arraycopy" 5 + 11) ≤ R.locals) (hdg : decode cc pc = .ok (.invokestatic index, 3))
    (kk : ∀ (H1 : Heap) (L : List Loc), H1[a]? = some (vp_cell cA (n1, .inl (va_cpy f g sp.toNatClampNeg dp.toNatClampNeg n.toNatClampNeg))) → H1.size = H.size → (∀ q : Nat, q ≠ a → H1[q]? = H[q]?) → (∀ q ∈ L, q.base = a) → W p l e R s m args below meth c H1 (locs ++ L) cells slots Q (F0 m (pc + 3) ls rest)) : W p l e R s m args below meth c H locs cells slots Q (F0 m pc ls (.int n :: .int dp :: .ref a :: .int sp :: .ref a0 :: rest)) := by
  have nn : ∀ z : Int32, ¬ z < 0 → z.toInt = (z.toNatClampNeg : Int) := by
    intro z hz
    have hz0 : (0 : Int) ≤ z.toInt := by
      have := Int32.not_lt.mp hz
      simpa using Int32.le_iff_toInt_le.mp this
    show z.toInt = ((z.toInt.toNat : Nat) : Int)
    omega
  intro T hT X
  obtain ⟨-, k0, hk0, cm0, hkk0⟩ := hA n0 (fun j => .int (f j))
  obtain ⟨-, k1, hk1, cm1, hkk1⟩ := hA n1 (fun j => .int (g j))
  obtain ⟨vm', X', step⟩ := X.arraycopy hexec hown hlink hnat hstat hini (src := a0) (dst := a) (cs := vp_cell cA (n0, .inl f)) (cd := vp_cell cA (n1, .inl g)) (srcPos := sp) (destPos := dp) (n := n) (by rw [hT]; exact hc0) (by rw [hT]; exact hc1)
    (fun _ h => by cases h) (fun _ h => by cases h) (fun h => by cases h) (fun h => by cases h) hk0 hk1 hkk0 hkk1 (by simp [refKind]) h1 h2 h3
    (by rw [nn sp h1, nn n h3]; show ¬ _ > ((arrV cA n0 (fun j => .int (f j))).slots.size : Int); rw [arrV_size]; omega)
    (by rw [nn dp h2, nn n h3]; show ¬ _ > ((arrV cA n1 (fun j => .int (g j))).slots.size : Int); rw [arrV_size]; omega)
    (fun vm₁ _ i hi => by
      have e : (vp_cell cA (n0, .inl f)).slots.getD (sp.toNatClampNeg + i) .null = .int (f (sp.toNatClampNeg + i)) := by
        show (arrV cA n0 (fun j => .int (f j))).slots.getD _ _ = _
        rw [Array.getD_eq_getD_getElem?, arrV_read _ _ (by omega)]
        rfl
      refine ⟨?_, ?_⟩
      · rw [e]
        rfl
      · rw [e]
        exact trivial)
    (g := F0 m pc ls (.int n :: .int dp :: .ref a :: .int sp :: .ref a0 :: rest)) rfl (by rw [hml]) (rest := rest) rfl (by rw [hb]; exact hdg) hframes (by show 2 * 0 + _ + _ ≤ _; omega)
  have e1 : copied (vp_cell cA (n0, .inl f)) (vp_cell cA (n1, .inl g)) sp dp n = vp_cell cA (n1, .inl (va_cpy f g sp.toNatClampNeg dp.toNatClampNeg n.toNatClampNeg)) := va_copied (fun z => .int z) cA cA f g h4
  rw [e1] at X' step
  have hl : a < H.size := (Array.getElem?_eq_some_iff.mp hc1).1
  have hheap : ((T.setVm vm').setCell a (vp_cell cA (n1, .inl (va_cpy f g sp.toNatClampNeg dp.toNatClampNeg n.toNatClampNeg)))).heap = H.setIfInBounds a (vp_cell cA (n1, .inl (va_cpy f g sp.toNatClampNeg dp.toNatClampNeg n.toNatClampNeg))) := by rw [← hT]; rfl
  have oq : ∀ q : Nat, q ≠ a → (H.setIfInBounds a (vp_cell cA (n1, .inl (va_cpy f g sp.toNatClampNeg dp.toNatClampNeg n.toNatClampNeg))))[q]? = H[q]? := fun q hq => by simp [Array.getElem?_setIfInBounds, Ne.symm hq]
  obtain ⟨t, a1, b1⟩ := kk _ _ (show (H.setIfInBounds a _)[a]? = some _ by simp [Array.getElem?_setIfInBounds, hl]) (by simp) oq (fun q hq => by
      obtain ⟨z, -, hz⟩ := List.mem_map.mp hq
      rw [← hz]) _ hheap X'
  exact ⟨t, step t a1, b1⟩
end STEPC
section STEPD
variable {l : Launch} {G : zG} {r : zE} {n : Nat} {mi pc len : Nat} {w : zL} {lv : List (Option Value)} {st : List Value} {h g : zH} {v : Option Value} {u : List Nat} {ix : Nat}
/-- a call, all kinds: what the walk owes and what it gets -/
theorem zcall {as t : List Value} {h1 : zH} {v1 : Option Value} (ih : zSnd l G r n) (e1 : zrun r n w.1 0 (zent (zMl w.1) as) [] h = some (v1, h1)) (e2 : zrun r n mi (pc + 3) lv (v1.toList ++ t) h1 = some (v, g)) {st0 : List Value}
    (hrow : ∀ {p : Program} {e : Env} {R : Room} {s : State} {m : MethodId} {args : Array Value} {below : List Frame} {meth : Method} {c : Code} {H : Heap} {locs : List Loc} {cells slots : Nat} {ls : Array Slot}, zFix G p s m args meth c mi → zLV ls (zMl mi) lv → zHS G r s h H → zFr mi ≤ R.frames → zLo mi ≤ R.locals → cells + (h1.length - h.length) ≤ R.cells → slots + (zhs h1 - zhs h) ≤ R.slots →
      PreS s H (va_Pc as (zWS G r h)) as → va_Run p l e R s m args below meth c H locs cells slots (h1.length - h.length) (zhs h1 - zhs h) (F0 m pc ls st0) t ((fun _ _ o t => o = .returned v1 ∧ zHS G r t h1 t.heap) as.toArray) (fun q => r.1 ≤ q)) : zGo l G r mi v g pc lv st0 h := by
  have k1 := (ih _ _ _ _ _ _ _ e1).1
  have k2 := ih _ _ _ _ _ _ _ e2
  refine ⟨⟨Nat.le_trans k1.1 k2.1.1, Nat.le_trans k1.2 k2.1.2⟩, fun {p e R s m args below meth c Q H locs cells slots k n' ls} hF hL hH hl q1 q2 b1 b2 hf ho hr => ?_⟩
  have hK : zKS G s := hF.2.2.2.2.2.1
  have kz := k2.1
  refine zr_run (hrow hF hL hH hf ho (by omega) (by omega) ⟨fun a U g mk q => ⟨q.1, q.2.1.moved (t := U.calling g mk a) (Vm.Alike.refl U.vm), zKS.warm (U := U.calling g mk a) (State.WarmedH.refl U) q.2.2⟩, fun U hU hW => ⟨rfl, by rw [hU]; exact hH.moved hW.alike, hK.warm hW⟩⟩) fun v' st₀ t' T' L hvm hL2 hQ => ?_
  obtain ⟨hv, hH1⟩ := hQ
  cases hv
  refine k2.2 hF hL (hH1.moved hvm.symm) (fun q hq => ?_) (by omega) (by omega) b1 b2 hf ho hr
  rcases List.mem_append.mp hq with hq | hq
  · exact hl q hq
  · exact hL2 q hq
theorem zcal_inv {i j : Nat} (hB : zcal mi w i j = true) : Cond.code (zY w.1) (zB w.1) (zMl w.1) (zRt w.1) ∈ lw_tbl ∧ Cond.initialized (zY w.1).cls ∈ lw_tbl ∧ zMl w.1 = w.2.2.2.2.1 ∧ ((zY w.1).cls ≠ "java/lang/invoke/MethodHandle" ∧ (zY w.1).cls ≠ "java/lang/invoke/VarHandle" ∧ (parseMethodDescriptor (zY w.1).desc).map (fun d => d.parameters.length) = some w.2.2.1) ∧ zFr w.1 + 1 ≤ zFr mi ∧ 8 + (zMl w.1 + 11) + zLo w.1 ≤ zLo mi := by
  unfold zcal at hB
  rw [Bool.and_eq_true, Bool.and_eq_true] at hB
  have h3 := of_decide_eq_true hB.2
  exact ⟨zmem_in hB.1.1, zmem_in hB.1.2, h3.1, h3.2.1, h3.2.2.1, h3.2.2.2⟩
theorem zGoodC {mj : Nat} (h : Cond.code (zY mj) (zB mj) (zMl mj) (zRt mj) ∈ lw_tbl) : GoodIn zgt (Cond.code (zY mj) (zB mj) (zMl mj) (zRt mj) :: zgt) := fun c hc => by
  rcases List.mem_cons.mp hc with rfl | hc
  · exact zgood _ (zgt_of h rfl)
  · exact zgood _ hc
theorem zs_invokevirtual (ih : zSnd l G r n) (hd : decode (zB mi) pc = .ok (.invokevirtual ix, len)) (hA : zokA mi pc len (.invokevirtual ix) w = true) (hB : zokB mi (.invokevirtual ix) w u = true) (hq : zx r (zrun r n) (zrun r n) mi pc len (.invokevirtual ix) w lv st h = some (v, g)) : zGo l G r mi v g pc lv st h := by
  obtain rfl := zA3 hA
  unfold zx at hq
  dsimp only at hq
  simp only [zokB] at hB
  rw [Bool.and_eq_true, Bool.and_eq_true, Bool.and_eq_true] at hB
  obtain ⟨⟨⟨hB1, hB2⟩, hB3⟩, hB4⟩ := hB
  obtain ⟨c1, c2, c3, c4, c5, c6⟩ := zcal_inv hB2
  obtain ⟨as, t, rfl, hn, hs8, -, hq2⟩ := zpop_inv hq
  replace hq := hq2
  obtain ⟨b, t, rfl, hq2⟩ := zp1r_inv hq
  replace hq := hq2
  obtain ⟨hob, hq⟩ := zif_inv hq
  obtain ⟨hlen, hq⟩ := zif_inv hq
  rw [← c3] at hlen hq
  obtain ⟨v1, h1, e1, -, e2⟩ := zca_inv hq
  split at hB4
  · rename_i q hc
    obtain ⟨fs, hz⟩ := zob_inv hob
    refine zcall ih e1 e2 fun {p e R s m args below meth c H locs cells slots ls} hF hL hH hf ho hcl hsl hp => ?_
    have hat : va_at G.1 zcls (b, .inr (w.2.2.2.2.2.toNat, fs)) H := hH.at hz
    obtain ⟨hx, hb, hml, hown, hts, hK, -⟩ := hF
    refine va_runV (C := q.1) (As := as) (b := b) (ws := Cond.code (zY w.1) (zB w.1) (zMl w.1) (zRt w.1) :: zgt) (nL := zMl mi) (Ts := zgt) ⟨hx, hb, hml, hown, hts⟩ (zMet ih e1 hlen) ⟨callB_of w.2.2.1 hts (zGoodC c1) rfl rfl rfl (hts _ (zgt_of c2 rfl)) (hts _ (zgt_of (zmem_in hB1) rfl)) c4 ⟨by dsimp only; omega, by dsimp only; omega⟩, hts _ (zgt_of (zmem_in hB3) rfl), hts _ (zgt_of (zmem_in hB4) rfl)⟩ ⟨hp.1, va_recv hK.1 (zP1 hat) hc (q0 := 0) rfl, hp.2⟩ rfl hn hL.1 rfl (lv_room (by simp only [List.map_cons, List.sum_cons] at hs8; omega)) hd ⟨hcl, hsl⟩
  · cases hB4
theorem zs_invokestatic (ih : zSnd l G r n) (hd : decode (zB mi) pc = .ok (.invokestatic ix, len)) (hA : zokA mi pc len (.invokestatic ix) w = true) (hB : zokB mi (.invokestatic ix) w u = true) (hq : zx r (zrun r n) (zrun r n) mi pc len (.invokestatic ix) w lv st h = some (v, g)) : zGo l G r mi v g pc lv st h := by
  obtain rfl := zA3 hA
  simp only [zokB] at hB
  unfold zx at hq
  dsimp only at hq
  split at hB
  · rename_i hw
    rw [hw] at hq
    try dsimp only at hq
    rw [Bool.and_eq_true, Bool.and_eq_true, Bool.and_eq_true, Bool.and_eq_true] at hB
    obtain ⟨⟨⟨⟨hB1, hB2⟩, hB3⟩, hB4⟩, hB5⟩ := hB
    have hB5 := of_decide_eq_true hB5
    obtain ⟨a0, sp, a1, dp, m9, t, rfl, hq2⟩ := zpcp_inv hq
    replace hq := hq2
    obtain ⟨hs8, hq⟩ := zif_inv hq
    obtain ⟨h2, e, hq⟩ := zbind_inv hq
    obtain ⟨n0, f, n1, f1, hz0, hz1, hcn, rfl⟩ := zcp_inv e
    refine zGo.write (c1 := .inl (n1, va_cpy f f1 sp.toNatClampNeg dp.toNatClampNeg m9.toNatClampNeg)) hz1 rfl (fun hF hL hH hf ho kk => ?_) (ih _ _ _ _ _ _ _ hq)
    obtain ⟨hx, hb, hml, hown, hts, hK, -⟩ := hF
    exact zr_copy hx hb (by rw [hml, hL.1]) hown (hts _ (zgt_of (zmem_in hB1) rfl)) (hts _ (zgt_of (zmem_in hB2) rfl)) (hts _ (zgt_of (zmem_in hB3) rfl)) (hts _ (zgt_of (zmem_in hB4) rfl)) (hK.1.2 0 _ rfl).1 (hH.at hz0) (hH.at hz1) (fun q => hcn (by simp [q])) (fun q => hcn (by simp [q])) (fun q => hcn (by simp [q])) (by omega) (by omega) (by omega) (by show _ + (7 + 11) ≤ _; omega) hd kk
  · rename_i hw
    rw [hw] at hq
    try dsimp only at hq
    rw [Bool.and_eq_true, Bool.and_eq_true, Bool.and_eq_true, Bool.and_eq_true] at hB
    obtain ⟨⟨⟨⟨hB1, hB2⟩, hB3⟩, hB4⟩, hB5⟩ := hB
    have hB5 := of_decide_eq_true hB5
    obtain ⟨x, t, rfl, hq2⟩ := zp1i_inv hq
    replace hq := hq2
    obtain ⟨hs8, hq⟩ := zif_inv hq
    have k0 := ih _ _ _ _ _ _ _ hq
    refine ⟨k0.1, fun hF hL hH hl e1 e2 b1 b2 hf ho hr => ?_⟩
    have k := k0.2 hF hL hH hl e1 e2 b1 b2 hf ho hr
    have k1 := k0.1
    obtain ⟨hx, hb, hml, hown, hts, hK, -⟩ := hF
    exact va_mabs hx hb (by rw [hml, hL.1]) hown (hts _ (zgt_of (zmem_in hB1) rfl)) (hts _ (zgt_of (zmem_in hB2) rfl)) (hts _ (zgt_of (zmem_in hB3) rfl)) (hts _ (zgt_of (zmem_in hB4) rfl)) (by omega) (by omega) (by omega) (by omega) hd k
  · rename_i hw
    rw [hw] at hq
    try dsimp only at hq
    rw [Bool.and_eq_true, Bool.and_eq_true, Bool.and_eq_true, Bool.and_eq_true] at hB
    obtain ⟨⟨⟨⟨hB1, hB2⟩, hB3⟩, hB4⟩, hB5⟩ := hB
    have hB5 := of_decide_eq_true hB5
    obtain ⟨x, y, t, rfl, hq2⟩ := zp2i_inv hq
    replace hq := hq2
    obtain ⟨hs8, hq⟩ := zif_inv hq
    have k0 := ih _ _ _ _ _ _ _ hq
    refine ⟨k0.1, fun hF hL hH hl e1 e2 b1 b2 hf ho hr => ?_⟩
    have k := k0.2 hF hL hH hl e1 e2 b1 b2 hf ho hr
    have k1 := k0.1
    obtain ⟨hx, hb, hml, hown, hts, hK, -⟩ := hF
    exact va_mmax hx hb (by rw [hml, hL.1]) hown (hts _ (zgt_of (zmem_in hB1) rfl)) (hts _ (zgt_of (zmem_in hB2) rfl)) (hts _ (zgt_of (zmem_in hB3) rfl)) (hts _ (zgt_of (zmem_in hB4) rfl)) (by omega) (by omega) (by omega) (by omega) hd k
  · rename_i hw
    rw [hw] at hq
    try dsimp only at hq
    rw [Bool.and_eq_true, Bool.and_eq_true, Bool.and_eq_true, Bool.and_eq_true] at hB
    obtain ⟨⟨⟨⟨hB1, hB2⟩, hB3⟩, hB4⟩, hB5⟩ := hB
    have hB5 := of_decide_eq_true hB5
    obtain ⟨x, y, t, rfl, hq2⟩ := zp2i_inv hq
    replace hq := hq2
    obtain ⟨hs8, hq⟩ := zif_inv hq
    have k0 := ih _ _ _ _ _ _ _ hq
    refine ⟨k0.1, fun hF hL hH hl e1 e2 b1 b2 hf ho hr => ?_⟩
    have k := k0.2 hF hL hH hl e1 e2 b1 b2 hf ho hr
    have k1 := k0.1
    obtain ⟨hx, hb, hml, hown, hts, hK, -⟩ := hF
    exact va_mmin hx hb (by rw [hml, hL.1]) hown (hts _ (zgt_of (zmem_in hB1) rfl)) (hts _ (zgt_of (zmem_in hB2) rfl)) (hts _ (zgt_of (zmem_in hB3) rfl)) (hts _ (zgt_of (zmem_in hB4) rfl)) (by omega) (by omega) (by omega) (by omega) hd k
  · rename_i hw
    rw [hw] at hq
    try dsimp only at hq
    rw [Bool.and_eq_true, Bool.and_eq_true, Bool.and_eq_true, Bool.and_eq_true] at hB
    obtain ⟨⟨⟨⟨hB1, hB2⟩, hB3⟩, hB4⟩, hB5⟩ := hB
    have hB5 := of_decide_eq_true hB5
    obtain ⟨x, t, rfl, hq2⟩ := zp1l_inv hq
    replace hq := hq2
    obtain ⟨hs8, hq⟩ := zif_inv hq
    have k0 := ih _ _ _ _ _ _ _ hq
    refine ⟨k0.1, fun hF hL hH hl e1 e2 b1 b2 hf ho hr => ?_⟩
    have k := k0.2 hF hL hH hl e1 e2 b1 b2 hf ho hr
    have k1 := k0.1
    obtain ⟨hx, hb, hml, hown, hts, hK, -⟩ := hF
    exact va_mabs_long hx hb (by rw [hml, hL.1]) hown (hts _ (zgt_of (zmem_in hB1) rfl)) (hts _ (zgt_of (zmem_in hB2) rfl)) (hts _ (zgt_of (zmem_in hB3) rfl)) (hts _ (zgt_of (zmem_in hB4) rfl)) (by omega) (by omega) (by omega) (by omega) hd k
  · rename_i hw
    rw [hw] at hq
    try dsimp only at hq
    rw [Bool.and_eq_true, Bool.and_eq_true, Bool.and_eq_true, Bool.and_eq_true] at hB
    obtain ⟨⟨⟨⟨hB1, hB2⟩, hB3⟩, hB4⟩, hB5⟩ := hB
    have hB5 := of_decide_eq_true hB5
    obtain ⟨x, y, t, rfl, hq2⟩ := zp2l_inv hq
    replace hq := hq2
    obtain ⟨hs8, hq⟩ := zif_inv hq
    have k0 := ih _ _ _ _ _ _ _ hq
    refine ⟨k0.1, fun hF hL hH hl e1 e2 b1 b2 hf ho hr => ?_⟩
    have k := k0.2 hF hL hH hl e1 e2 b1 b2 hf ho hr
    have k1 := k0.1
    obtain ⟨hx, hb, hml, hown, hts, hK, -⟩ := hF
    exact va_mmax_long hx hb (by rw [hml, hL.1]) hown (hts _ (zgt_of (zmem_in hB1) rfl)) (hts _ (zgt_of (zmem_in hB2) rfl)) (hts _ (zgt_of (zmem_in hB3) rfl)) (hts _ (zgt_of (zmem_in hB4) rfl)) (by omega) (by omega) (by omega) (by omega) hd k
  · rename_i hw3 hw5 hw6 hw7 hw8 hw9
    split at hq
    · rename_i hw; exact absurd hw hw3
    · rename_i hw; exact absurd hw hw5
    · rename_i hw; exact absurd hw hw6
    · rename_i hw; exact absurd hw hw7
    · rename_i hw; exact absurd hw hw8
    · rename_i hw; exact absurd hw hw9
    · rw [Bool.and_eq_true, Bool.and_eq_true] at hB
      obtain ⟨⟨hB1, hB2⟩, hB3⟩ := hB
      obtain ⟨c1, c2, c3, c4, c5, c6⟩ := zcal_inv hB2
      obtain ⟨as, t, rfl, hn, hs8, -, hq2⟩ := zpop_inv hq
      replace hq := hq2
      obtain ⟨hlen, hq⟩ := zif_inv hq
      rw [← c3] at hlen hq
      obtain ⟨v1, h1, e1, -, e2⟩ := zca_inv hq
      refine zcall ih e1 e2 fun {p e R s m args below meth c H locs cells slots ls} hF hL hH hf ho hcl hsl hp => ?_
      obtain ⟨hx, hb, hml, hown, hts, hK, -⟩ := hF
      exact va_runS (As := as) (ws := Cond.code (zY w.1) (zB w.1) (zMl w.1) (zRt w.1) :: zgt) (nL := zMl mi) (Ts := zgt) ⟨hx, hb, hml, hown, hts⟩ (zMet ih e1 hlen) ⟨callB_of w.2.2.1 hts (zGoodC c1) rfl rfl rfl (hts _ (zgt_of c2 rfl)) (hts _ (zgt_of (zmem_in hB1) rfl)) c4 ⟨by dsimp only; omega, by dsimp only; omega⟩, hts _ (zgt_of (zmem_in hB3) rfl)⟩ hp rfl hn hL.1 rfl (lv_room hs8) hd ⟨hcl, hsl⟩
theorem zs_invokespecial (ih : zSnd l G r n) (hd : decode (zB mi) pc = .ok (.invokespecial ix, len)) (hA : zokA mi pc len (.invokespecial ix) w = true) (hB : zokB mi (.invokespecial ix) w u = true) (hq : zx r (zrun r n) (zrun r n) mi pc len (.invokespecial ix) w lv st h = some (v, g)) : zGo l G r mi v g pc lv st h := by
  obtain rfl := zA3 hA
  simp only [zokB] at hB
  unfold zx at hq
  dsimp only at hq
  split at hB
  · rename_i hw
    rw [hw] at hq
    try dsimp only at hq
    rw [Bool.and_eq_true, Bool.and_eq_true, Bool.and_eq_true] at hB
    obtain ⟨⟨⟨hB1, hB2⟩, hB3⟩, hB4⟩ := hB
    have hB4 := of_decide_eq_true hB4
    obtain ⟨a, t, rfl, hq2⟩ := zp1r_inv hq
    replace hq := hq2
    obtain ⟨hs8, hq⟩ := zif_inv hq
    refine (ih _ _ _ _ _ _ _ hq).row fun hF hL _ hf ho k => ?_
    obtain ⟨hx, hb, hml, hown, hts, hK, -⟩ := hF
    exact W.objInit hx hb hown (hts _ (zgt_of (zmem_in hB1) rfl)) (hts _ (zgt_of (zmem_in hB2) rfl)) (hts _ (zgt_of (zmem_in hB3) rfl)) rfl (by rw [hml]; exact hL.1) rfl hd (by omega) (by show 2 * 0 + _ + _ ≤ _; omega) k
  · rename_i hw4
    split at hq
    · rename_i hw; exact absurd hw hw4
    · rw [Bool.and_eq_true, Bool.and_eq_true, Bool.and_eq_true, Bool.or_eq_true] at hB
      obtain ⟨⟨⟨hB1, hB2⟩, hB3⟩, hB4⟩ := hB
      have hB4 := of_decide_eq_true hB4
      obtain ⟨c1, c2, c3, c4, c5, c6⟩ := zcal_inv hB2
      obtain ⟨as, t, rfl, hn, hs8, -, hq2⟩ := zpop_inv hq
      replace hq := hq2
      obtain ⟨b, t, rfl, hq2⟩ := zp1r_inv hq
      replace hq := hq2
      obtain ⟨hlen, hq⟩ := zif_inv hq
      rw [← c3] at hlen hq
      obtain ⟨v1, h1, e1, -, e2⟩ := zca_inv hq
      refine zcall ih e1 e2 fun {p e R s m args below meth c H locs cells slots ls} hF hL hH hf ho hcl hsl hp => ?_
      obtain ⟨hx, hb, hml, hown, hts, hK, -⟩ := hF
      have M := zMet ih e1 hlen
      have hG := zGoodC c1
      rw [hB4.2] at M hG
      rcases hB1 with hB1 | hB1
      · exact va_runI (As := as) (b := b) (bytes := zB w.1) (maxL := zMl w.1) (nL := zMl mi) (Ts := zgt) ⟨hx, hb, hml, hown, hts⟩ M ⟨callB_of w.2.2.1 hts hG rfl rfl rfl (hts _ (zgt_of c2 rfl)) (hts _ (zgt_of (zmem_in hB1) rfl)) c4 ⟨by dsimp only; omega, by dsimp only; omega⟩, hB4.1, hts _ (zgt_of (zmem_in hB3) rfl)⟩ hp rfl hn hL.1 rfl (lv_room (by simp only [List.map_cons, List.sum_cons] at hs8; omega)) hd ⟨hcl, hsl⟩
      · exact va_runIN (As := as) (b := b) (bytes := zB w.1) (maxL := zMl w.1) (nL := zMl mi) (Ts := zgt) ⟨hx, hb, hml, hown, hts⟩ M ⟨va_cnB w.2.2.1 hts hG rfl rfl rfl (hK.2 _ (zmem_in hB1) rfl) (hts _ (zgt_of c2 rfl)) c4 ⟨by dsimp only; omega, by dsimp only; omega⟩, hB4.1, hts _ (zgt_of (zmem_in hB3) rfl)⟩ hp rfl hn hL.1 rfl (lv_room (by simp only [List.map_cons, List.sum_cons] at hs8; omega)) hd ⟨hcl, hsl⟩
theorem zOut_end {x : Option Value} (ho : zOut mi pc x) (e : st = x.toList) : zGo l G r mi x h pc lv st h := by
  subst e
  refine ⟨⟨Nat.le_refl _, Nat.le_refl _⟩, fun {p e R s m args below meth c Q H locs cells slots k n' ls} hF hL hH hl q1 q2 b1 b2 hf hoo hr => ?_⟩
  have e1 : k = cells := by omega
  have e2 : n' = slots := by omega
  subst e1; subst e2
  exact hr pc ls H locs ho hH hl
theorem zs_ireturn (hd : decode (zB mi) pc = .ok (.ireturn, len)) (hA : zokA mi pc len .ireturn w = true) (hq : zx r (zrun r n) (zrun r n) mi pc len .ireturn w lv st h = some (v, g)) : zGo l G r mi v g pc lv st h := by
  obtain rfl := zA1 hA
  unfold zx at hq
  dsimp only at hq
  split at hq
  · rename_i x
    have hA2 : (if w.1 = 0 then decide (zRt mi = some .int) else decide (zRt mi = some .boolean)) = true := hA
    split at hq
    · rename_i hw
      rw [if_pos hw] at hA2
      cases hq
      exact zOut_end (Or.inl ⟨x, rfl, hd, Or.inl (of_decide_eq_true hA2)⟩) rfl
    · rename_i hw
      rw [if_neg hw] at hA2
      obtain ⟨hc, hq⟩ := zif_inv hq
      cases hq
      exact zOut_end (Or.inl ⟨x, rfl, hd, Or.inr ⟨of_decide_eq_true hA2, hc⟩⟩) rfl
  · cases hq
theorem zs_lreturn (hd : decode (zB mi) pc = .ok (.lreturn, len)) (hA : zokA mi pc len .lreturn w = true) (hq : zx r (zrun r n) (zrun r n) mi pc len .lreturn w lv st h = some (v, g)) : zGo l G r mi v g pc lv st h := by
  obtain rfl := zA1 hA
  unfold zx at hq
  dsimp only at hq
  split at hq
  · rename_i x
    cases hq
    exact zOut_end (Or.inr (Or.inl ⟨x, rfl, hd, zAdc hA⟩)) rfl
  · cases hq
theorem zs_areturn (hd : decode (zB mi) pc = .ok (.areturn, len)) (hA : zokA mi pc len .areturn w = true) (hq : zx r (zrun r n) (zrun r n) mi pc len .areturn w lv st h = some (v, g)) : zGo l G r mi v g pc lv st h := by
  obtain rfl := zA1 hA
  unfold zx at hq
  dsimp only at hq
  split at hq
  · rename_i x
    cases hq
    exact zOut_end (Or.inr (Or.inr (Or.inl ⟨some x, rfl, hd, zAdc hA⟩))) rfl
  · cases hq
    exact zOut_end (Or.inr (Or.inr (Or.inl ⟨none, rfl, hd, zAdc hA⟩))) rfl
  · cases hq
theorem zs_return (hd : decode (zB mi) pc = .ok (.return_, len)) (hA : zokA mi pc len .return_ w = true) (hq : zx r (zrun r n) (zrun r n) mi pc len .return_ w lv st h = some (v, g)) : zGo l G r mi v g pc lv st h := by
  obtain rfl := zA1 hA
  unfold zx at hq
  dsimp only at hq
  split at hq
  · cases hq
    exact zOut_end (Or.inr (Or.inr (Or.inr ⟨rfl, hd, zAdc hA⟩))) rfl
  · cases hq
end STEPD
end
section
/-! THE MACHINE RUNS AS THE PURE MACHINE DOES -/
theorem zstep {l : Launch} {G : zG} {r : zE} {n : Nat} (ih : zSnd l G r n) : zSnd l G r (n + 1) := by
  intro mi pc lv st h v g hq
  have hq : zst r (zrun r n) (zrun r n) mi pc lv st h = some (v, g) := hq
  unfold zst at hq
  cases hz : zlk (zcd mi) pc with
  | none => rw [hz] at hq; cases hq
  | some q =>
    rw [hz] at hq
    obtain ⟨hd, hA, u, hB⟩ := zck_at hz
    obtain ⟨len, ins, w⟩ := q
    dsimp only at hd hA hB hq
    cases ins
    case iadd => exact zs_iadd ih hd hA hq
    case isub => exact zs_isub ih hd hA hq
    case imul => exact zs_imul ih hd hA hq
    case iand => exact zs_iand ih hd hA hq
    case ior => exact zs_ior ih hd hA hq
    case ixor => exact zs_ixor ih hd hA hq
    case ishl => exact zs_ishl ih hd hA hq
    case ishr => exact zs_ishr ih hd hA hq
    case iushr => exact zs_iushr ih hd hA hq
    case idiv => exact zs_idiv ih hd hA hq
    case irem => exact zs_irem ih hd hA hq
    case ladd => exact zs_ladd ih hd hA hq
    case lmul => exact zs_lmul ih hd hA hq
    case ldiv => exact zs_ldiv ih hd hA hq
    case lrem => exact zs_lrem ih hd hA hq
    case lcmp => exact zs_lcmp ih hd hA hq
    case ineg => exact zs_ineg ih hd hA hq
    case lneg => exact zs_lneg ih hd hA hq
    case i2l => exact zs_i2l ih hd hA hq
    case l2i => exact zs_l2i ih hd hA hq
    case i2b => exact zs_i2b ih hd hA hq
    case dup => exact zs_dup ih hd hA hq
    case pop => exact zs_pop ih hd hA hq
    case dup2 => exact zs_dup2 ih hd hA hq
    case iaload => exact zs_iaload ih hd hA hq
    case caload => exact zs_caload ih hd hA hq
    case aaload => exact zs_aaload ih hd hA hq
    case iastore => exact zs_iastore ih hd hA hq
    case aastore => exact zs_aastore ih hd hA hq
    case arraylength => exact zs_alen ih hd hA hq
    case aconst_null => exact zs_null ih hd hA hq
    case iconst i => exact zs_iconst ih hd hA hq
    case lconst i => exact zs_lconst ih hd hA hq
    case bipush i => exact zs_bipush ih hd hA hq
    case sipush i => exact zs_sipush ih hd hA hq
    case iload i => exact zs_iload ih hd hA hq
    case iload_n i => exact zs_iload_n ih hd hA hq
    case lload i => exact zs_lload ih hd hA hq
    case lload_n i => exact zs_lload_n ih hd hA hq
    case aload i => exact zs_aload ih hd hA hq
    case aload_n i => exact zs_aload_n ih hd hA hq
    case istore i => exact zs_istore ih hd hA hq
    case istore_n i => exact zs_istore_n ih hd hA hq
    case lstore i => exact zs_lstore ih hd hA hq
    case lstore_n i => exact zs_lstore_n ih hd hA hq
    case astore i => exact zs_astore ih hd hA hq
    case astore_n i => exact zs_astore_n ih hd hA hq
    case goto i => exact zs_goto ih hd hA hq
    case ifnull i => exact zs_ifnull ih hd hA hq
    case ifnonnull i => exact zs_ifnonnull ih hd hA hq
    case iinc i c => exact zs_iinc ih hd hA hq
    case ldc i => exact zs_ldc ih hd hA hB hq
    case ldc_w i => exact zs_ldc_w ih hd hA hB hq
    case ldc2_w i => exact zs_ldc2_w ih hd hA hB hq
    case getfield i => exact zs_getfield ih hd hA hB hq
    case putfield i => exact zs_putfield ih hd hA hB hq
    case getstatic i => exact zs_getstatic ih hd hA hB hq
    case new i => exact zs_new ih hd hA hB hq
    case anewarray i => exact zs_anewarray ih hd hA hB hq
    case invokevirtual i => exact zs_invokevirtual ih hd hA hB hq
    case invokespecial i => exact zs_invokespecial ih hd hA hB hq
    case invokestatic i => exact zs_invokestatic ih hd hA hB hq
    case ifCond c off => cases c with
      | eq => exact zs_if_eq ih hd hA hq
      | ne => exact zs_if_ne ih hd hA hq
      | lt => exact zs_if_lt ih hd hA hq
      | ge => exact zs_if_ge ih hd hA hq
      | gt => exact zs_if_gt ih hd hA hq
      | le => exact zs_if_le ih hd hA hq
    case if_icmp c off => cases c with
      | eq => exact zs_ic_eq ih hd hA hq
      | ne => exact zs_ic_ne ih hd hA hq
      | lt => exact zs_ic_lt ih hd hA hq
      | ge => exact zs_ic_ge ih hd hA hq
      | gt => exact zs_ic_gt ih hd hA hq
      | le => exact zs_ic_le ih hd hA hq
    case tableswitch d lo hi os => exact zs_tsw ih hd hA hq
    case lookupswitch d ps => exact zs_lsw ih hd hA hq
    case newarray ty => cases ty with
      | int => exact zs_newarray ih hd hA hq
      | _ => exact absurd (show (none : Option zRes) = some (v, g) from hq) (by simp)
    case ireturn => exact zs_ireturn hd hA hq
    case lreturn => exact zs_lreturn hd hA hq
    case areturn => exact zs_areturn hd hA hq
    case return_ => exact zs_return hd hA hq
    all_goals exact absurd (show (none : Option zRes) = some (v, g) from hq) (by simp)
theorem zsnd (l : Launch) (G : zG) (r : zE) : ∀ n, zSnd l G r n
  | 0 => fun _ _ _ _ _ _ _ h => by cases h
  | n + 1 => zstep (zsnd l G r n)
theorem zsnd_ev {l : Launch} {G : zG} {r : zE} {mi pc : Nat} {lv : List (Option Value)} {st : List Value} {h g : zH} {v : Option Value} (e : zev r mi pc lv st h = some (v, g)) : zGo l G r mi v g pc lv st h := by
  obtain ⟨n, hn⟩ := zev_iff.mp e
  exact zsnd l G r n _ _ _ _ _ _ _ hn
end
section
/-! THE CLAIM OUT OF ONE WALK OF THE LAW'S BODY. Your part is whole_start (and what it stands on); all else here is the same for every law, but numbers. -/
def R_law : String := "HammockDeckLaw"
def lw_P (b : Addr) (xs : List Int32) (args : Array Value) (s : State) : Prop := args = #[.ref b] ∧ s.IntsAt b xs ∧ xs.length ≤ 260 ∧ (Jvm.Cond.and given_1 narrow_1).before args s = true
def lw_Q (_ : Array Value) (s : State) (o : Outcome) (t : State) : Prop := o = .returned (some (.int 1)) ∧ Framed s o t [] 600000 7302250
def lw_Z (below : List Frame) (a : Array Value) (s : State) : State → Prop := fun t => ∃ o, t.status = .running ∧ Ended t below o ∧ lw_Q a s o t
/-- the law's own end, with 1 on the stack, nothing written that was there before, its room as the claim has it -/
theorem lw_ret {p : Program} {l : Launch} {e : Env} {s : State} {m : MethodId} {below : List Frame} {meth : Method} {c : Code} {b : Nat} (hx : p.tables.exec = Jvm.exec) (hb : c.code = code) (hr : meth.sig.returnType = ret) (hlocks : meth.locks = false) {pc : Nat} {H : Heap} {ls : Array Slot} (hdg : decode code pc = .ok (.ireturn, 1)) : W p l e room_1 s m #[Value.ref b] below meth c H [] 600000 7302250 (lw_Z below #[Value.ref b] s) (F0 m pc ls [.int 1]) := by
  intro T hT X
  obtain ⟨fs, hret, hrun, hended, hW, hframe⟩ := X.leave (v := some (.int 1)) (hlocks := hlocks) (fun h => by rw [hr] at h; cases h)
  have hmeth' : T.vm.method? m = some meth := X.method'
  refine ⟨T.setFrames fs, ?_, .returned (some (.int 1)), hrun, hended, rfl, ⟨_, rfl⟩, hW, hframe⟩
  jvm_step X.here [X.here.top, hx, hb, hdg, hmeth', hr, ret, narrow_b1]
  (try refine ⟨rfl, ?_⟩); (try refine ⟨rfl, ?_⟩)
  first | (intro acts; rw [hret _ acts rfl rfl rfl]) | rw [hret _ _ rfl rfl rfl]
  exact Steps.refl _
/-- what holds at the law's entry: the machine, the code, the tables' words (any of lw_tbl by 'hts w (by decide +kernel)'), the script of L ints xs at the cell b, what the Statement gives of the start (any of its parts by flat_of_before) -/
def lw_At (p : Program) (s : State) (m : MethodId) (meth : Method) (c : Code) (b L : Nat) (xs : Nat → Int32) : Prop :=
  p.tables.exec = Jvm.exec ∧ c.code = code ∧ meth.sig.returnType = ret ∧ c.maxLocals = 29 ∧ s.vm.findClass R_law = some m.cls ∧ (∀ w ∈ lw_tbl, w.before #[Value.ref b] s = true) ∧ va_X b L xs s s.heap ∧ b < s.heap.size ∧ meth.locks = false ∧ (Jvm.Cond.and given_1 narrow_1).before #[Value.ref b] s = true

/-- what the pure machine is given: the script, the tables of the class -/
def zKB : Nat → Int32 := fun j => [0, 1, 0, 0, 2, 0].getD j 0
def zKL : Nat → Int32 := fun j => [109, 116, 115, 102, 110, 105].getD j 0
def zPL : Nat → Int32 := fun j => [46, 100, 108, 117, 103].getD j 0
def zPW : Nat → Int32 := fun j => [0, 1, 3, 2, -1].getD j 0
def zEnv (r : zE) (b L : Nat) (xs : Nat → Int32) : Prop := ¬ r.1 ≤ b ∧ r.2.1 b = some (false, L, xs) ∧ (∀ i, i < 4 → ¬ r.1 ≤ r.2.2 i) ∧ r.2.1 (r.2.2 0) = some (false, 6, zKB) ∧ r.2.1 (r.2.2 1) = some (true, 6, zKL) ∧ r.2.1 (r.2.2 2) = some (true, 5, zPL) ∧ r.2.1 (r.2.2 3) = some (false, 5, zPW)
theorem zT_len {ty ty' : FieldType} {t N N' : Nat} {f f' : Nat → Value} {A : Nat → Prop} {U : State} {H : Heap} (h1 : va_T ty t N f A U H) (h2 : va_T ty' t N' f' A U H) : Int32.ofNat N = Int32.ofNat N' := by
  obtain ⟨c1, a1, -, -, -, b1, -⟩ := h1
  obtain ⟨c2, a2, -, -, -, b2, -⟩ := h2
  cases a1.symm.trans a2
  exact b1.symm.trans b2
theorem zT_ty {ty ty' : FieldType} {t N N' : Nat} {f f' : Nat → Value} {A : Nat → Prop} {U : State} {H : Heap} (h1 : va_T ty t N f A U H) (h2 : va_T ty' t N' f' A U H) : ty = ty' := by
  obtain ⟨c1, a1, ⟨-, k1, d1, e1, g1⟩, -⟩ := h1
  obtain ⟨c2, a2, ⟨-, k2, d2, e2, g2⟩, -⟩ := h2
  cases a1.symm.trans a2
  cases d1.symm.trans d2
  rw [g1] at g2
  cases g2
  rfl
set_option maxHeartbeats 4000000 in
set_option maxRecDepth 100000 in
theorem z_law {p : Program} {e : Env} {s : State} {m : MethodId} {below : List Frame} {meth : Method} {c : Code} (l : Launch) {b L : Nat} {xs : Nat → Int32} (C0 : lw_At p s m meth c b L xs) :
    ∃ r : zE, zEnv r b L xs ∧ ∀ g : zH, zev r 0 0 [some (.ref b), none, none, none, none, none, none, none, none, none, none, none, none, none, none, none, none, none, none, none, none, none, none, none, none, none, none, none, none] [] [] = some (some (.int 1), g) → g.length ≤ 600000 → zhs g ≤ 7302250 → W p l e room_1 s m #[Value.ref b] below meth c s.heap [] 0 0 (lw_Z below #[Value.ref b] s) (entryFrame m ([Value.ref b] : List Value).toArray 29) := by
  obtain ⟨hx, hb, hr, hml, hown, hts, hX, hbl, hlocks, hgv⟩ := id C0
  have hs := flat_of_before _ hgv
  have hA : ∀ a : Nat, a < s.heap.size → ¬ (fun x : Nat => s.heap.size ≤ x) a := fun a ha => Nat.not_le.mpr ha
  obtain ⟨t0, ht0, hT0⟩ := va_Tof (N := 6) (ty := .int) (tm := (.static "HammockDeck" "KIND_BULK" "[I")) (f := fun j => .int (zKB j)) (A := fun x : Nat => s.heap.size ≤ x) (s := s) (args := #[Value.ref b]) (by decide) (hs _ (by decide +kernel)) (va_eqt (hs (.eq (.length (.static "HammockDeck" "KIND_BULK" "[I")) (.int 6)) (by decide +kernel))) (fun j hj => by
    match j, hj with
    | 0, _ => exact va_eqt (hs (.eq (.elem (.static "HammockDeck" "KIND_BULK" "[I") (.int 0)) (.int 0)) (by decide +kernel))
    | 1, _ => exact va_eqt (hs (.eq (.elem (.static "HammockDeck" "KIND_BULK" "[I") (.int 1)) (.int 1)) (by decide +kernel))
    | 2, _ => exact va_eqt (hs (.eq (.elem (.static "HammockDeck" "KIND_BULK" "[I") (.int 2)) (.int 0)) (by decide +kernel))
    | 3, _ => exact va_eqt (hs (.eq (.elem (.static "HammockDeck" "KIND_BULK" "[I") (.int 3)) (.int 0)) (by decide +kernel))
    | 4, _ => exact va_eqt (hs (.eq (.elem (.static "HammockDeck" "KIND_BULK" "[I") (.int 4)) (.int 2)) (by decide +kernel))
    | 5, _ => exact va_eqt (hs (.eq (.elem (.static "HammockDeck" "KIND_BULK" "[I") (.int 5)) (.int 0)) (by decide +kernel))
    | k + 6, hj => omega) hA
  have hZ0 := va_Zref (A := fun x : Nat => s.heap.size ≤ x) (hts (.laysStatic "HammockDeck" "KIND_BULK" "[I") (by decide +kernel)) (hts (.initialized "HammockDeck") (by decide +kernel)) ht0 hA
  obtain ⟨t1, ht1, hT1⟩ := va_Tof (N := 6) (ty := .char) (tm := (.static "HammockDeck" "KIND_LETTERS" "[C")) (f := fun j => .int (zKL j)) (A := fun x : Nat => s.heap.size ≤ x) (s := s) (args := #[Value.ref b]) (by decide) (hs _ (by decide +kernel)) (va_eqt (hs (.eq (.length (.static "HammockDeck" "KIND_LETTERS" "[C")) (.int 6)) (by decide +kernel))) (fun j hj => by
    match j, hj with
    | 0, _ => exact va_eqt (hs (.eq (.elem (.static "HammockDeck" "KIND_LETTERS" "[C") (.int 0)) (.int 109)) (by decide +kernel))
    | 1, _ => exact va_eqt (hs (.eq (.elem (.static "HammockDeck" "KIND_LETTERS" "[C") (.int 1)) (.int 116)) (by decide +kernel))
    | 2, _ => exact va_eqt (hs (.eq (.elem (.static "HammockDeck" "KIND_LETTERS" "[C") (.int 2)) (.int 115)) (by decide +kernel))
    | 3, _ => exact va_eqt (hs (.eq (.elem (.static "HammockDeck" "KIND_LETTERS" "[C") (.int 3)) (.int 102)) (by decide +kernel))
    | 4, _ => exact va_eqt (hs (.eq (.elem (.static "HammockDeck" "KIND_LETTERS" "[C") (.int 4)) (.int 110)) (by decide +kernel))
    | 5, _ => exact va_eqt (hs (.eq (.elem (.static "HammockDeck" "KIND_LETTERS" "[C") (.int 5)) (.int 105)) (by decide +kernel))
    | k + 6, hj => omega) hA
  have hZ1 := va_Zref (A := fun x : Nat => s.heap.size ≤ x) (hts (.laysStatic "HammockDeck" "KIND_LETTERS" "[C") (by decide +kernel)) (hts (.initialized "HammockDeck") (by decide +kernel)) ht1 hA
  obtain ⟨t2, ht2, hT2⟩ := va_Tof (N := 5) (ty := .char) (tm := (.static "HammockDeck" "PLACE_LETTERS" "[C")) (f := fun j => .int (zPL j)) (A := fun x : Nat => s.heap.size ≤ x) (s := s) (args := #[Value.ref b]) (by decide) (hs _ (by decide +kernel)) (va_eqt (hs (.eq (.length (.static "HammockDeck" "PLACE_LETTERS" "[C")) (.int 5)) (by decide +kernel))) (fun j hj => by
    match j, hj with
    | 0, _ => exact va_eqt (hs (.eq (.elem (.static "HammockDeck" "PLACE_LETTERS" "[C") (.int 0)) (.int 46)) (by decide +kernel))
    | 1, _ => exact va_eqt (hs (.eq (.elem (.static "HammockDeck" "PLACE_LETTERS" "[C") (.int 1)) (.int 100)) (by decide +kernel))
    | 2, _ => exact va_eqt (hs (.eq (.elem (.static "HammockDeck" "PLACE_LETTERS" "[C") (.int 2)) (.int 108)) (by decide +kernel))
    | 3, _ => exact va_eqt (hs (.eq (.elem (.static "HammockDeck" "PLACE_LETTERS" "[C") (.int 3)) (.int 117)) (by decide +kernel))
    | 4, _ => exact va_eqt (hs (.eq (.elem (.static "HammockDeck" "PLACE_LETTERS" "[C") (.int 4)) (.int 103)) (by decide +kernel))
    | k + 5, hj => omega) hA
  have hZ2 := va_Zref (A := fun x : Nat => s.heap.size ≤ x) (hts (.laysStatic "HammockDeck" "PLACE_LETTERS" "[C") (by decide +kernel)) (hts (.initialized "HammockDeck") (by decide +kernel)) ht2 hA
  obtain ⟨t3, ht3, hT3⟩ := va_Tof (N := 5) (ty := .int) (tm := (.static "HammockDeck" "PLACE_WAKES" "[I")) (f := fun j => .int (zPW j)) (A := fun x : Nat => s.heap.size ≤ x) (s := s) (args := #[Value.ref b]) (by decide) (hs _ (by decide +kernel)) (va_eqt (hs (.eq (.length (.static "HammockDeck" "PLACE_WAKES" "[I")) (.int 5)) (by decide +kernel))) (fun j hj => by
    match j, hj with
    | 0, _ => exact va_eqt (hs (.eq (.elem (.static "HammockDeck" "PLACE_WAKES" "[I") (.int 0)) (.int 0)) (by decide +kernel))
    | 1, _ => exact va_eqt (hs (.eq (.elem (.static "HammockDeck" "PLACE_WAKES" "[I") (.int 1)) (.int 1)) (by decide +kernel))
    | 2, _ => exact va_eqt (hs (.eq (.elem (.static "HammockDeck" "PLACE_WAKES" "[I") (.int 2)) (.int 3)) (by decide +kernel))
    | 3, _ => exact va_eqt (hs (.eq (.elem (.static "HammockDeck" "PLACE_WAKES" "[I") (.int 3)) (.int 2)) (by decide +kernel))
    | 4, _ => exact va_eqt (hs (.eq (.elem (.static "HammockDeck" "PLACE_WAKES" "[I") (.int 4)) (.int (-1))) (by decide +kernel))
    | k + 5, hj => omega) hA
  have hZ3 := va_Zref (A := fun x : Nat => s.heap.size ≤ x) (hts (.laysStatic "HammockDeck" "PLACE_WAKES" "[I") (by decide +kernel)) (hts (.initialized "HammockDeck") (by decide +kernel)) ht3 hA
  have hTb : va_T .int b L (fun j => .int (xs j)) (fun x : Nat => s.heap.size ≤ x) s s.heap := by
    obtain ⟨scr, h1, h2, h3, h4, h5⟩ := hX
    exact ⟨scr, h1, h2, h3, by omega, (by rw [h4]), h5, Nat.not_le.mpr hbl⟩
  have hev : (Term.arg 0).eval #[Value.ref b] s none [] s = some (.ref b) := rfl
  have n0 : b ≠ t0 := va_neR (hs (.not (.eq (.arg 0) (.static "HammockDeck" "KIND_BULK" "[I"))) (by decide +kernel)) hev ht0
  have n3 : b ≠ t3 := va_neR (hs (.not (.eq (.arg 0) (.static "HammockDeck" "PLACE_WAKES" "[I"))) (by decide +kernel)) hev ht3
  have n1 : b ≠ t1 := fun q => by subst q; exact absurd (zT_ty hTb hT1) (by decide)
  have n2 : b ≠ t2 := fun q => by subst q; exact absurd (zT_ty hTb hT2) (by decide)
  have n03 : t0 ≠ t3 := fun q => by subst q; exact absurd (zT_len hT0 hT3) (by decide)
  have n12 : t1 ≠ t2 := fun q => by subst q; exact absurd (zT_len hT1 hT2) (by decide)
  have n01 : t0 ≠ t1 := fun q => by subst q; exact absurd (zT_ty hT0 hT1) (by decide)
  have n02 : t0 ≠ t2 := fun q => by subst q; exact absurd (zT_ty hT0 hT2) (by decide)
  have n31 : t3 ≠ t1 := fun q => by subst q; exact absurd (zT_ty hT3 hT1) (by decide)
  have n32 : t3 ≠ t2 := fun q => by subst q; exact absurd (zT_ty hT3 hT2) (by decide)
  have tl : ∀ {ty : FieldType} {t N : Nat} {f : Nat → Value}, va_T ty t N f (fun x : Nat => s.heap.size ≤ x) s s.heap → ¬ s.heap.size ≤ t := fun h => by obtain ⟨_, _, _, _, _, _, _, h7⟩ := h; exact h7
  obtain ⟨c0, iS0, hKn0⟩ := u_known (C := RX0) (T := TX0) (N := 5) (n := 5) hts (by decide +kernel) (hts (.instantiable RX0 5) (by decide +kernel))
  obtain ⟨c1, iS1, hKn1⟩ := u_known (C := RX1) (T := TX1) (N := 7) (n := 7) hts (by decide +kernel) (hts (.instantiable RX1 7) (by decide +kernel))
  obtain ⟨c2, iS2, hKn2⟩ := u_known (C := RX2) (T := TX2) (N := 2) (n := 2) hts (by decide +kernel) (hts (.instantiable RX2 2) (by decide +kernel))
  obtain ⟨c3, iS3, hKn3⟩ := u_known (C := RX3) (T := TX3) (N := 3) (n := 3) hts (by decide +kernel) (hts (.instantiable RX3 3) (by decide +kernel))
  obtain ⟨c4, iS4, hKn4⟩ := u_known (C := RX4) (T := TX4) (N := 2) (n := 2) hts (by decide +kernel) (hts (.instantiable RX4 2) (by decide +kernel))
  obtain ⟨c5, iS5, hKn5⟩ := u_known (C := RX5) (T := TX5) (N := 12) (n := 12) hts (by decide +kernel) (hts (.instantiable RX5 12) (by decide +kernel))
  obtain ⟨dC, dI, hKc⟩ : ∃ (dC : Nat → ClassId) (dI : Nat → Nat → Nat), ∀ (k : Nat) (q : vw_C), zcls[k]? = some q → u_Kn s q.1 q.2.1 q.2.2 (dC k) (dI k) := by
    refine ⟨fun k => match k with | 0 => c0 | 1 => c1 | 2 => c2 | 3 => c3 | 4 => c4 | _ => c5, fun k => match k with | 0 => iS0 | 1 => iS1 | 2 => iS2 | 3 => iS3 | 4 => iS4 | _ => iS5, ?_⟩
    intro k q hq
    match k, hq with
    | 0, hq => cases hq; exact hKn0
    | 1, hq => cases hq; exact hKn1
    | 2, hq => cases hq; exact hKn2
    | 3, hq => cases hq; exact hKn3
    | 4, hq => cases hq; exact hKn4
    | 5, hq => cases hq; exact hKn5
    | k + 6, hq => simp [zcls] at hq
  obtain ⟨aI, kI, cpI, hI1, hI2, hI3⟩ := Cond.arrayClass_spec (hts (.arrayClass .int) (by decide +kernel))
  obtain ⟨cp4, a4, k4, h41, -, h43, h44, h45⟩ := Cond.arrayOver_spec (hts (.arrayOver (.object RX4)) (by decide +kernel))
  obtain ⟨cp2, a2, k2, h21, -, h23, h24, h25⟩ := Cond.arrayOver_spec (hts (.arrayOver (.object RX2)) (by decide +kernel))
  have hK : zKS ((dC, dI), aI, fun k => if k = 4 then a4 else a2) s := by
    refine ⟨⟨hKc, fun k q hq => ?_⟩, fun w hw hd => ?_⟩
    · match k, hq with
      | 0, hq => cases hq; exact ⟨fun N z => ⟨fun k h => (by cases h), kI, hI2, cpI, hI3⟩, hI1⟩
      | 1, hq => cases hq; exact ⟨fun N z => ⟨fun k h => (by cases h), k4, h43, cp4, h44⟩, k4, cp4, h43, h44, h41, h45⟩
      | 2, hq => cases hq; exact ⟨fun N z => ⟨fun k h => (by cases h), k2, h23, cp2, h24⟩, k2, cp2, h23, h24, h21, h25⟩
      | k + 3, hq => simp at hq
    · have h9 := hts w hw
      unfold zNd at hd
      split at hd
      · exact va_Nw.of rfl h9
      · exact va_Nw.of rfl h9
      · exact va_AO.of h9
      · cases hd
  refine ⟨(s.heap.size, fun a => if a = b then some (false, L, xs) else if a = t0 then some (false, 6, zKB) else if a = t3 then some (false, 5, zPW) else if a = t1 then some (true, 6, zKL) else if a = t2 then some (true, 5, zPL) else none, fun i => match i with | 0 => t0 | 1 => t1 | 2 => t2 | _ => t3), ?_, ?_⟩
  · refine ⟨Nat.not_le.mpr hbl, by simp, fun i hi => ?_, ?_, ?_, ?_, ?_⟩
    · match i, hi with
      | 0, _ => exact tl hT0
      | 1, _ => exact tl hT1
      | 2, _ => exact tl hT2
      | 3, _ => exact tl hT3
      | k + 4, hi => omega
    · simp [Ne.symm n0]
    · simp [Ne.symm n1, Ne.symm n01, Ne.symm n31]
    · simp [Ne.symm n2, Ne.symm n02, Ne.symm n32, Ne.symm n12]
    · simp [Ne.symm n3, Ne.symm n03]
  · intro g hg hgl hgs
    rw [lg_entry_eq]
    obtain ⟨-, k⟩ := zsnd_ev (l := l) (G := ((dC, dI), aI, fun k => if k = 4 then a4 else a2)) hg
    refine k (k := g.length) (n := zhs g) (R := room_1) (H := s.heap) (locs := []) (cells := 0) (slots := 0) ⟨hx, hb, hml, hown, fun w hw => hts w (List.mem_filter.mp hw).1, hK, fun h => absurd h (by decide +kernel)⟩ (zent_lv [.ref b] (n := 29) (Nat.le_of_ble_eq_true rfl)) ⟨rfl, fun k c hk => by simp at hk, fun a q hq => ?_, fun i q hq => ?_⟩ (fun q hq => by cases hq) (by simp) (by simp [zhs]) hgl hgs (by decide +kernel) (by decide +kernel) (fun pc' ls' H' locs' ho hH' hl' => ?_)
    · dsimp only at hq
      split at hq
      · rename_i h; cases hq; rw [h]; exact hTb
      · split at hq
        · rename_i h; cases hq; rw [h]; exact hT0
        · split at hq
          · rename_i h; cases hq; rw [h]; exact hT3
          · split at hq
            · rename_i h; cases hq; rw [h]; exact hT1
            · split at hq
              · rename_i h; cases hq; rw [h]; exact hT2
              · cases hq
    · match i, hq with
      | 0, hq => cases hq; exact hZ0
      | 1, hq => cases hq; exact hZ1
      | 2, hq => cases hq; exact hZ2
      | 3, hq => cases hq; exact hZ3
      | k + 4, hq => simp [zstat] at hq
    · rcases ho with ⟨x, hv, hd, -⟩ | ⟨x, hv, -⟩ | ⟨x, hv, -⟩ | ⟨hv, -⟩
      · cases hv
        exact W.widen hgl hgs (va_forget hl' (lw_ret hx hb hr hlocks hd))
      · cases hv
      · cases x <;> cases hv
      · cases hv
end
section
/-! stretches of code as equations (printed by wip/p48/gen20.py) -/
set_option maxRecDepth 100000 in
theorem E_X0_init_0 (r : zE) (h : zH) (x : Nat) (a1 : Nat) : zev r i_X0_init 0 [some (.ref x), some (.ref a1)] [] h =
    ((zpF r (h ++ [.inl (6, fun _ => 0)] : zH) x 0 1 (.ref (r.1 + h.length))).bind fun h1 =>
    (zpF r (h1 ++ [.inl (7, fun _ => 0)] : zH) x 0 2 (.ref (r.1 + h1.length))).bind fun h2 =>
    (zpF r (h2 ++ [.inl (6, fun _ => 0)] : zH) x 0 3 (.ref (r.1 + h2.length))).bind fun h3 =>
    (zpF r (h3 ++ [.inl (6, fun _ => 0)] : zH) x 0 4 (.ref (r.1 + h3.length))).bind fun h4 =>
    if zob r h4 x 0 = true then
    (zcV (zev r i_X0_begin 0 [some (.ref x), some (.ref a1)] [] h4) fun h5 =>
    some (none, h5))
    else none) := zblk r [] 25 _ _ _ _ _
set_option maxRecDepth 100000 in
theorem E_X0_begin_0 (r : zE) (h : zH) (x : Nat) (a1 : Nat) : zev r i_X0_begin 0 [some (.ref x), some (.ref a1)] [] h =
    ((zpF r h x 0 0 (.ref a1)).bind fun h1 =>
    (zgR r h1 a1 1 4).bind fun v1 =>
    (zgR r h1 x 0 3).bind fun v2 =>
    (zcp r h1 v1 (0 : Int32) v2 (0 : Int32) (6 : Int32)).bind fun h2 =>
    (zgR r h2 x 0 4).bind fun v3 =>
    zcV (zev r i_J7_fill_53178 0 [some (.ref v3), some (.int (0 : Int32)), none, none] [] h2) fun h3 =>
    if zob r h3 x 0 = true then
    (zcV (zev r i_X0_hangByFirstPlan 0 [some (.ref x), none] [] h3) fun h4 =>
    some (none, h4))
    else none) := zblk r [] 21 _ _ _ _ _
set_option maxRecDepth 100000 in
theorem E_X0_copyFrom_0 (r : zE) (h : zH) (x : Nat) (a1 : Nat) : zev r i_X0_copyFrom 0 [some (.ref x), some (.ref a1)] [] h =
    ((zgR r h a1 0 0).bind fun v1 =>
    (zpF r h x 0 0 (.ref v1)).bind fun h1 =>
    (zgR r h1 a1 0 1).bind fun v2 =>
    (zgR r h1 x 0 1).bind fun v3 =>
    (zcp r h1 v2 (0 : Int32) v3 (0 : Int32) (6 : Int32)).bind fun h2 =>
    (zgR r h2 a1 0 2).bind fun v4 =>
    (zgR r h2 x 0 2).bind fun v5 =>
    (zcp r h2 v4 (0 : Int32) v5 (0 : Int32) (7 : Int32)).bind fun h3 =>
    (zgR r h3 a1 0 3).bind fun v6 =>
    (zgR r h3 x 0 3).bind fun v7 =>
    (zcp r h3 v6 (0 : Int32) v7 (0 : Int32) (6 : Int32)).bind fun h4 =>
    (zgR r h4 a1 0 4).bind fun v8 =>
    (zgR r h4 x 0 4).bind fun v9 =>
    (zcp r h4 v8 (0 : Int32) v9 (0 : Int32) (6 : Int32)).bind fun h5 =>
    some (none, h5)) := zblk r [] 40 _ _ _ _ _
set_option maxRecDepth 100000 in
theorem E_X0_manDetail_0 (r : zE) (h : zH) (x : Nat) (i1 : Int32) (i2 : Int32) : zev r i_X0_manDetail 0 [some (.ref x), some (.int i1), some (.int i2)] [] h =
    (if i2 = (0 : Int32) then
      (zgR r h x 0 0).bind fun v1 =>
      (zgR r h v1 1 3).bind fun v2 =>
      (zaI r h v2 i1).bind fun v3 =>
      some (some (.int v3), h)
    else if i2 = (1 : Int32) then
      (zgR r h x 0 3).bind fun v4 =>
      (zaI r h v4 i1).bind fun v5 =>
      some (some (.int v5), h)
    else if i2 = (2 : Int32) then
      (zgR r h x 0 0).bind fun v6 =>
      (zgR r h v6 1 5).bind fun v7 =>
      (zaI r h v7 i1).bind fun v8 =>
      some (some (.int v8), h)
    else if i2 = (3 : Int32) then
      (zgR r h x 0 0).bind fun v9 =>
      (zgR r h v9 1 6).bind fun v10 =>
      (zaI r h v10 i1).bind fun v11 =>
      some (some (.int v11), h)
    else if i2 = (4 : Int32) then
      (zgR r h x 0 1).bind fun v12 =>
      (zaI r h v12 i1).bind fun v13 =>
      some (some (.int v13), h)
    else (zgR r h x 0 4).bind fun v14 =>
      (zaI r h v14 i1).bind fun v15 =>
      some (some (.int v15), h)) := zblk r [] 38 _ _ _ _ _
set_option maxRecDepth 100000 in
theorem E_X0_hookDetail_0 (r : zE) (h : zH) (x : Nat) (i1 : Int32) (i2 : Int32) : zev r i_X0_hookDetail 0 [some (.ref x), some (.int i1), some (.int i2)] [] h =
    (if i2 = 0 then
      (zgR r h x 0 0).bind fun v1 =>
      (zgR r h v1 1 2).bind fun v2 =>
      (zaI r h v2 i1).bind fun v3 =>
      some (some (.int v3), h)
    else
      (zgR r h x 0 2).bind fun v4 =>
      (zaI r h v4 i1).bind fun v5 =>
      some (some (.int v5), h)) := zblk r [] 16 _ _ _ _ _
set_option maxRecDepth 100000 in
theorem E_X0_tiredTogether_0 (r : zE) (h : zH) (x : Nat) : zev r i_X0_tiredTogether 0 [some (.ref x), none, none] [] h =
    (zev r i_X0_tiredTogether 4 [some (.ref x), some (.int (0 : Int32)), some (.int (0 : Int32))] [] h) := zblk r [4] 23 _ _ _ _ _
set_option maxRecDepth 100000 in
theorem E_X0_tiredTogether_4 (r : zE) (h : zH) (x : Nat) (l1 : Int32) (l2 : Int32) : zev r i_X0_tiredTogether 4 [some (.ref x), some (.int l1), some (.int l2)] [] h =
    ((zgR r h x 0 0).bind fun v1 =>
    (zgI r h v1 1 1).bind fun v2 =>
    if l2 < v2 then
      (zgR r h x 0 4).bind fun v3 =>
      (zaI r h v3 l2).bind fun v4 =>
      zev r i_X0_tiredTogether 4 [some (.ref x), some (.int (l1 + v4)), some (.int (l2 + (1 : Int32)))] [] h
    else
      some (some (.int l1), h)) := zblk r [4] 23 _ _ _ _ _
set_option maxRecDepth 100000 in
theorem E_X0_writeTo_0 (r : zE) (h : zH) (x : Nat) (a1 : Nat) (i2 : Int32) : zev r i_X0_writeTo 0 [some (.ref x), some (.ref a1), some (.int i2)] [] h =
    (if i2 < 0 then
      some (none, h)
    else
      (zaN r h a1).bind fun n1 =>
      if ((Int32.ofNat n1) - (18 : Int32)) < i2 then
        some (none, h)
      else
        (zgR r h x 0 1).bind fun v2 =>
        (zcp r h v2 (0 : Int32) a1 i2 (6 : Int32)).bind fun h1 =>
        (zgR r h1 x 0 3).bind fun v3 =>
        (zcp r h1 v3 (0 : Int32) a1 (i2 + (6 : Int32)) (6 : Int32)).bind fun h2 =>
        (zgR r h2 x 0 4).bind fun v4 =>
        (zcp r h2 v4 (0 : Int32) a1 (i2 + (12 : Int32)) (6 : Int32)).bind fun h3 =>
        some (none, h3)) := zblk r [] 38 _ _ _ _ _
set_option maxRecDepth 100000 in
theorem E_X0_readFrom_0 (r : zE) (h : zH) (x : Nat) (a1 : Nat) (i2 : Int32) : zev r i_X0_readFrom 0 [some (.ref x), some (.ref a1), some (.int i2), none] [] h =
    (if i2 < 0 then
      some (none, h)
    else
      (zaN r h a1).bind fun n1 =>
      if ((Int32.ofNat n1) - (18 : Int32)) < i2 then
        some (none, h)
      else
        if zob r h x 0 = true then
        (zcV (zev r i_X0_takeAllDown 0 [some (.ref x)] [] h) fun h1 =>
        zev r i_X0_readFrom 20 [some (.ref x), some (.ref a1), some (.int i2), some (.int (0 : Int32))] [] h1)
        else none) := zblk r [20] 50 _ _ _ _ _
set_option maxRecDepth 100000 in
theorem E_X0_readFrom_20 (r : zE) (h : zH) (x : Nat) (l1 : Nat) (l2 : Int32) (l3 : Int32) : zev r i_X0_readFrom 20 [some (.ref x), some (.ref l1), some (.int l2), some (.int l3)] [] h =
    ((zgR r h x 0 0).bind fun v1 =>
    (zgI r h v1 1 1).bind fun v2 =>
    if l3 < v2 then
      (zaI r h l1 (l2 + l3)).bind fun v3 =>
      if zob r h x 0 = true then
      (zcV (zev r i_X0_move 0 [some (.ref x), some (.int l3), some (.int v3)] [] h) fun h1 =>
      zev r i_X0_readFrom 20 [some (.ref x), some (.ref l1), some (.int l2), some (.int (l3 + (1 : Int32)))] [] h1)
      else none
    else
      (zgR r h x 0 3).bind fun v4 =>
      (zcp r h l1 (l2 + (6 : Int32)) v4 (0 : Int32) (6 : Int32)).bind fun h2 =>
      (zgR r h2 x 0 4).bind fun v5 =>
      (zcp r h2 l1 (l2 + (12 : Int32)) v5 (0 : Int32) (6 : Int32)).bind fun h3 =>
      some (none, h3)) := zblk r [20] 50 _ _ _ _ _
set_option maxRecDepth 100000 in
theorem E_X0_isFree_0 (r : zE) (h : zH) (x : Nat) (i1 : Int32) : zev r i_X0_isFree 0 [some (.ref x), some (.int i1)] [] h =
    ((zgR r h x 0 0).bind fun v1 =>
    if zob r h v1 1 = true then
    (zcI (zev r i_X1_hasHook 0 [some (.ref v1), some (.int i1)] [] h) fun v2 h1 =>
    if v2 = 0 then
      some (some (.int (0 : Int32)), h1)
    else
      (zgR r h1 x 0 2).bind fun v3 =>
      (zaI r h1 v3 i1).bind fun v4 =>
      if v4 = (-9 : Int32) then
        some (some (.int (1 : Int32)), h1)
      else
        some (some (.int (0 : Int32)), h1))
    else none) := zblk r [] 18 _ _ _ _ _
set_option maxRecDepth 100000 in
theorem E_X0_hangs_0 (r : zE) (h : zH) (x : Nat) (i1 : Int32) : zev r i_X0_hangs 0 [some (.ref x), some (.int i1)] [] h =
    ((zgR r h x 0 1).bind fun v1 =>
    (zaI r h v1 i1).bind fun v2 =>
    if v2 = (-9 : Int32) then
      some (some (.int (0 : Int32)), h)
    else
      some (some (.int (1 : Int32)), h)) := zblk r [] 13 _ _ _ _ _
set_option maxRecDepth 100000 in
theorem E_X0_move_0 (r : zE) (h : zH) (x : Nat) (i1 : Int32) (i2 : Int32) : zev r i_X0_move 0 [some (.ref x), some (.int i1), some (.int i2)] [] h =
    ((zgR r h x 0 0).bind fun v1 =>
    (zgR r h x 0 1).bind fun v2 =>
    (zaI r h v2 i1).bind fun v3 =>
    if zob r h v1 1 = true then
    (zcI (zev r i_X1_hasHook 0 [some (.ref v1), some (.int v3)] [] h) fun v4 h1 =>
    if v4 = 0 then
      zev r i_X0_move 29 [some (.ref x), some (.int i1), some (.int i2)] [] h1
    else
      (zgR r h1 x 0 2).bind fun v5 =>
      (zgR r h1 x 0 1).bind fun v6 =>
      (zaI r h1 v6 i1).bind fun v7 =>
      (zsI r h1 v5 v7 (-9 : Int32)).bind fun h2 =>
      zev r i_X0_move 29 [some (.ref x), some (.int i1), some (.int i2)] [] h2)
    else none) := zblk r [29] 35 _ _ _ _ _
set_option maxRecDepth 100000 in
theorem E_X0_move_29 (r : zE) (h : zH) (x : Nat) (l1 : Int32) (l2 : Int32) : zev r i_X0_move 29 [some (.ref x), some (.int l1), some (.int l2)] [] h =
    ((zgR r h x 0 1).bind fun v1 =>
    (zsI r h v1 l1 l2).bind fun h1 =>
    (zgR r h1 x 0 0).bind fun v2 =>
    if zob r h1 v2 1 = true then
    (zcI (zev r i_X1_hasHook 0 [some (.ref v2), some (.int l2)] [] h1) fun v3 h2 =>
    if v3 = 0 then
      some (none, h2)
    else
      (zgR r h2 x 0 2).bind fun v4 =>
      (zsI r h2 v4 l2 l1).bind fun h3 =>
      some (none, h3))
    else none) := zblk r [29] 35 _ _ _ _ _
set_option maxRecDepth 100000 in
theorem E_X0_swap_0 (r : zE) (h : zH) (x : Nat) (i1 : Int32) (i2 : Int32) : zev r i_X0_swap 0 [some (.ref x), some (.int i1), some (.int i2), none, none] [] h =
    ((zgR r h x 0 1).bind fun v1 =>
    (zaI r h v1 i1).bind fun v2 =>
    (zgR r h x 0 1).bind fun v3 =>
    (zaI r h v3 i2).bind fun v4 =>
    if zob r h x 0 = true then
    (zcV (zev r i_X0_move 0 [some (.ref x), some (.int i1), some (.int (-9 : Int32))] [] h) fun h1 =>
    if zob r h1 x 0 = true then
    (zcV (zev r i_X0_move 0 [some (.ref x), some (.int i2), some (.int v2)] [] h1) fun h2 =>
    if zob r h2 x 0 = true then
    (zcV (zev r i_X0_move 0 [some (.ref x), some (.int i1), some (.int v4)] [] h2) fun h3 =>
    some (none, h3))
    else none)
    else none)
    else none) := zblk r [] 26 _ _ _ _ _
set_option maxRecDepth 100000 in
theorem E_X0_takeAllDown_0 (r : zE) (h : zH) (x : Nat) : zev r i_X0_takeAllDown 0 [some (.ref x)] [] h =
    ((zgR r h x 0 1).bind fun v1 =>
    zcV (zev r i_J7_fill_53178 0 [some (.ref v1), some (.int (-9 : Int32)), none, none] [] h) fun h1 =>
    (zgR r h1 x 0 2).bind fun v2 =>
    zcV (zev r i_J7_fill_53178 0 [some (.ref v2), some (.int (-9 : Int32)), none, none] [] h1) fun h2 =>
    some (none, h2)) := zblk r [] 12 _ _ _ _ _
set_option maxRecDepth 100000 in
theorem E_X0_hangBy_0 (r : zE) (h : zH) (x : Nat) (a1 : Nat) : zev r i_X0_hangBy 0 [some (.ref x), some (.ref a1), none, none] [] h =
    (if zob r h x 0 = true then
    (zcV (zev r i_X0_takeAllDown 0 [some (.ref x)] [] h) fun h1 =>
    zev r i_X0_hangBy 6 [some (.ref x), some (.ref a1), some (.int (0 : Int32)), none] [] h1)
    else none) := zblk r [6] 30 _ _ _ _ _
set_option maxRecDepth 100000 in
theorem E_X0_hangBy_6 (r : zE) (h : zH) (x : Nat) (l1 : Nat) (l2 : Int32) : zev r i_X0_hangBy 6 [some (.ref x), some (.ref l1), some (.int l2), none] [] h =
    ((zgR r h x 0 0).bind fun v1 =>
    (zgI r h v1 1 1).bind fun v2 =>
    if l2 < v2 then
      if zob r h l1 4 = true then
      (zcI (zev r i_X4_get 0 [some (.ref l1), some (.int l2)] [] h) fun v3 h1 =>
      if zob r h1 x 0 = true then
      (zcI (zev r i_X0_isFree 0 [some (.ref x), some (.int v3)] [] h1) fun v4 h2 =>
      if v4 = 0 then
        some (some (.int (0 : Int32)), h2)
      else
        if zob r h2 x 0 = true then
        (zcV (zev r i_X0_move 0 [some (.ref x), some (.int l2), some (.int v3)] [] h2) fun h3 =>
        zev r i_X0_hangBy 6 [some (.ref x), some (.ref l1), some (.int (l2 + (1 : Int32))), none] [] h3)
        else none)
      else none)
      else none
    else
      some (some (.int (1 : Int32)), h)) := zblk r [6] 30 _ _ _ _ _
set_option maxRecDepth 100000 in
theorem E_X0_hangByFirstPlan_0 (r : zE) (h : zH) (x : Nat) : zev r i_X0_hangByFirstPlan 0 [some (.ref x), none] [] h =
    (if zob r h x 0 = true then
    (zcV (zev r i_X0_takeAllDown 0 [some (.ref x)] [] h) fun h1 =>
    zev r i_X0_hangByFirstPlan 6 [some (.ref x), some (.int (0 : Int32))] [] h1)
    else none) := zblk r [6] 19 _ _ _ _ _
set_option maxRecDepth 100000 in
theorem E_X0_hangByFirstPlan_6 (r : zE) (h : zH) (x : Nat) (l1 : Int32) : zev r i_X0_hangByFirstPlan 6 [some (.ref x), some (.int l1)] [] h =
    ((zgR r h x 0 0).bind fun v1 =>
    (zgI r h v1 1 1).bind fun v2 =>
    if l1 < v2 then
      if zob r h x 0 = true then
      (zcV (zev r i_X0_move 0 [some (.ref x), some (.int l1), some (.int l1)] [] h) fun h1 =>
      zev r i_X0_hangByFirstPlan 6 [some (.ref x), some (.int (l1 + (1 : Int32)))] [] h1)
      else none
    else
      some (none, h)) := zblk r [6] 19 _ _ _ _ _
set_option maxRecDepth 100000 in
theorem E_X0_hangByNextPlan_0 (r : zE) (h : zH) (x : Nat) : zev r i_X0_hangByNextPlan 0 [some (.ref x), none, none] [] h =
    ((zgR r h x 0 0).bind fun v1 =>
    (zgI r h v1 1 1).bind fun v2 =>
    zev r i_X0_hangByNextPlan 10 [some (.ref x), some (.int (v2 - (1 : Int32))), none] [] h) := zblk r [10, 32] 33 _ _ _ _ _
set_option maxRecDepth 100000 in
theorem E_X0_hangByNextPlan_10 (r : zE) (h : zH) (x : Nat) (l1 : Int32) : zev r i_X0_hangByNextPlan 10 [some (.ref x), some (.int l1), none] [] h =
    (if l1 < 0 then
      zev r i_X0_hangByNextPlan 32 [some (.ref x), some (.int l1), some (.int (l1 + (1 : Int32)))] [] h
    else
      if zob r h x 0 = true then
      (zcI (zev r i_X0_moveOn 0 [some (.ref x), some (.int l1), none] [] h) fun v1 h1 =>
      if v1 = 0 then
        zev r i_X0_hangByNextPlan 10 [some (.ref x), some (.int (l1 + (-1 : Int32))), none] [] h1
      else
        zev r i_X0_hangByNextPlan 32 [some (.ref x), some (.int l1), some (.int (l1 + (1 : Int32)))] [] h1)
      else none) := zblk r [10, 32] 33 _ _ _ _ _
set_option maxRecDepth 100000 in
theorem E_X0_hangByNextPlan_32 (r : zE) (h : zH) (x : Nat) (l1 : Int32) (l2 : Int32) : zev r i_X0_hangByNextPlan 32 [some (.ref x), some (.int l1), some (.int l2)] [] h =
    ((zgR r h x 0 0).bind fun v1 =>
    (zgI r h v1 1 1).bind fun v2 =>
    if l2 < v2 then
      if zob r h x 0 = true then
      (zcI (zev r i_X0_moveOn 0 [some (.ref x), some (.int l2), none] [] h) fun v3 h1 =>
      zev r i_X0_hangByNextPlan 32 [some (.ref x), some (.int l1), some (.int (l2 + (1 : Int32)))] [] h1)
      else none
    else
      some (none, h)) := zblk r [10, 32] 33 _ _ _ _ _
set_option maxRecDepth 100000 in
theorem E_X0_moveOn_0 (r : zE) (h : zH) (x : Nat) (i1 : Int32) : zev r i_X0_moveOn 0 [some (.ref x), some (.int i1), none] [] h =
    ((zgR r h x 0 1).bind fun v1 =>
    (zaI r h v1 i1).bind fun v2 =>
    zev r i_X0_moveOn 13 [some (.ref x), some (.int i1), some (.int ((if (-1 : Int32) < v2 then v2 else (-1 : Int32)) + (1 : Int32)))] [] h) := zblk r [13] 35 _ _ _ _ _
set_option maxRecDepth 100000 in
theorem E_X0_moveOn_13 (r : zE) (h : zH) (x : Nat) (l1 : Int32) (l2 : Int32) : zev r i_X0_moveOn 13 [some (.ref x), some (.int l1), some (.int l2)] [] h =
    ((zgR r h x 0 0).bind fun v1 =>
    (zgI r h v1 1 0).bind fun v2 =>
    if l2 < v2 then
      if zob r h x 0 = true then
      (zcI (zev r i_X0_isFree 0 [some (.ref x), some (.int l2)] [] h) fun v3 h1 =>
      if v3 = 0 then
        zev r i_X0_moveOn 13 [some (.ref x), some (.int l1), some (.int (l2 + (1 : Int32)))] [] h1
      else
        if zob r h1 x 0 = true then
        (zcV (zev r i_X0_move 0 [some (.ref x), some (.int l1), some (.int l2)] [] h1) fun h2 =>
        some (some (.int (1 : Int32)), h2))
        else none)
      else none
    else
      if zob r h x 0 = true then
      (zcV (zev r i_X0_move 0 [some (.ref x), some (.int l1), some (.int (-9 : Int32))] [] h) fun h3 =>
      some (some (.int (0 : Int32)), h3))
      else none) := zblk r [13] 35 _ _ _ _ _
set_option maxRecDepth 100000 in
theorem E_X0_messmatePairs_0 (r : zE) (h : zH) (x : Nat) : zev r i_X0_messmatePairs 0 [some (.ref x), none, none, none, none] [] h =
    (zev r i_X0_messmatePairs 4 [some (.ref x), some (.int (0 : Int32)), some (.int (0 : Int32)), none, none] [] h) := zblk r [4] 52 _ _ _ _ _
set_option maxRecDepth 100000 in
theorem E_X0_messmatePairs_4 (r : zE) (h : zH) (x : Nat) (l1 : Int32) (l2 : Int32) : zev r i_X0_messmatePairs 4 [some (.ref x), some (.int l1), some (.int l2), none, none] [] h =
    ((zgR r h x 0 0).bind fun v1 =>
    (zgI r h v1 1 0).bind fun v2 =>
    if (l2 + (1 : Int32)) < v2 then
      (zgR r h x 0 2).bind fun v3 =>
      (zaI r h v3 l2).bind fun v4 =>
      (zgR r h x 0 2).bind fun v5 =>
      (zaI r h v5 (l2 + (1 : Int32))).bind fun v6 =>
      (zgR r h x 0 0).bind fun v7 =>
      if zob r h v7 1 = true then
      (zcI (zev r i_X1_hasMan 0 [some (.ref v7), some (.int v4)] [] h) fun v8 h1 =>
      if v8 = 0 then
        zev r i_X0_messmatePairs 4 [some (.ref x), some (.int l1), some (.int (l2 + (1 : Int32))), none, none] [] h1
      else
        (zgR r h1 x 0 0).bind fun v9 =>
        if zob r h1 v9 1 = true then
        (zcI (zev r i_X1_hasMan 0 [some (.ref v9), some (.int v6)] [] h1) fun v10 h2 =>
        if v10 = 0 then
          zev r i_X0_messmatePairs 4 [some (.ref x), some (.int l1), some (.int (l2 + (1 : Int32))), none, none] [] h2
        else
          (zgR r h2 x 0 0).bind fun v11 =>
          (zgR r h2 v11 1 6).bind fun v12 =>
          (zaI r h2 v12 v4).bind fun v13 =>
          (zgR r h2 x 0 0).bind fun v14 =>
          (zgR r h2 v14 1 6).bind fun v15 =>
          (zaI r h2 v15 v6).bind fun v16 =>
          if v13 = v16 then
            zev r i_X0_messmatePairs 4 [some (.ref x), some (.int (l1 + (1 : Int32))), some (.int (l2 + (1 : Int32))), none, none] [] h2
          else
            zev r i_X0_messmatePairs 4 [some (.ref x), some (.int l1), some (.int (l2 + (1 : Int32))), none, none] [] h2)
        else none)
      else none
    else
      some (some (.int l1), h)) := zblk r [4] 52 _ _ _ _ _
set_option maxRecDepth 100000 in
theorem E_X0_isIn_0 (r : zE) (h : zH) (x : Nat) (i1 : Int32) (i2 : Int32) : zev r i_X0_isIn 0 [some (.ref x), some (.int i1), some (.int i2)] [] h =
    ((zgR r h x 0 1).bind fun v1 =>
    (zaI r h v1 i1).bind fun v2 =>
    if v2 = (-9 : Int32) then
      some (some (.int (0 : Int32)), h)
    else
      if i2 = 0 then
        some (some (.int (1 : Int32)), h)
      else
        (zgR r h x 0 0).bind fun v3 =>
        (zgR r h v3 1 5).bind fun v4 =>
        (zaI r h v4 i1).bind fun v5 =>
        if v5 = (i2 - (1 : Int32)) then
          some (some (.int (0 : Int32)), h)
        else
          some (some (.int (1 : Int32)), h)) := zblk r [] 24 _ _ _ _ _
set_option maxRecDepth 100000 in
theorem E_X0_howManyIn_0 (r : zE) (h : zH) (x : Nat) (i1 : Int32) : zev r i_X0_howManyIn 0 [some (.ref x), some (.int i1), none, none] [] h =
    (zev r i_X0_howManyIn 4 [some (.ref x), some (.int i1), some (.int (0 : Int32)), some (.int (0 : Int32))] [] h) := zblk r [4] 22 _ _ _ _ _
set_option maxRecDepth 100000 in
theorem E_X0_howManyIn_4 (r : zE) (h : zH) (x : Nat) (l1 : Int32) (l2 : Int32) (l3 : Int32) : zev r i_X0_howManyIn 4 [some (.ref x), some (.int l1), some (.int l2), some (.int l3)] [] h =
    ((zgR r h x 0 0).bind fun v1 =>
    (zgI r h v1 1 1).bind fun v2 =>
    if l3 < v2 then
      if zob r h x 0 = true then
      (zcI (zev r i_X0_isIn 0 [some (.ref x), some (.int l3), some (.int l1)] [] h) fun v3 h1 =>
      if v3 = 0 then
        zev r i_X0_howManyIn 4 [some (.ref x), some (.int l1), some (.int l2), some (.int (l3 + (1 : Int32)))] [] h1
      else
        zev r i_X0_howManyIn 4 [some (.ref x), some (.int l1), some (.int (l2 + (1 : Int32))), some (.int (l3 + (1 : Int32)))] [] h1)
      else none
    else
      some (some (.int l2), h)) := zblk r [4] 22 _ _ _ _ _
set_option maxRecDepth 100000 in
theorem E_X0_bitOfWhoIsInAt_0 (r : zE) (h : zH) (x : Nat) (i1 : Int32) (i2 : Int32) : zev r i_X0_bitOfWhoIsInAt 0 [some (.ref x), some (.int i1), some (.int i2), none] [] h =
    ((zgR r h x 0 0).bind fun v1 =>
    if zob r h v1 1 = true then
    (zcI (zev r i_X1_hasHook 0 [some (.ref v1), some (.int i1)] [] h) fun v2 h1 =>
    if v2 = 0 then
      some (some (.int (0 : Int32)), h1)
    else
      (zgR r h1 x 0 2).bind fun v3 =>
      (zaI r h1 v3 i1).bind fun v4 =>
      (zgR r h1 x 0 0).bind fun v5 =>
      if zob r h1 v5 1 = true then
      (zcI (zev r i_X1_hasMan 0 [some (.ref v5), some (.int v4)] [] h1) fun v6 h2 =>
      if v6 = 0 then
        some (some (.int (0 : Int32)), h2)
      else
        if zob r h2 x 0 = true then
        (zcI (zev r i_X0_isIn 0 [some (.ref x), some (.int v4), some (.int i2)] [] h2) fun v7 h3 =>
        if v7 = 0 then
          some (some (.int (0 : Int32)), h3)
        else
          some (some (.int ((1 : Int32) <<< (v4 &&& 31))), h3))
        else none)
      else none)
    else none) := zblk r [] 31 _ _ _ _ _
set_option maxRecDepth 100000 in
theorem E_X0_neighbourBits_0 (r : zE) (h : zH) (x : Nat) (i1 : Int32) (i2 : Int32) : zev r i_X0_neighbourBits 0 [some (.ref x), some (.int i1), some (.int i2)] [] h =
    (if zob r h x 0 = true then
    (zcI (zev r i_X0_hangs 0 [some (.ref x), some (.int i1)] [] h) fun v1 h1 =>
    if v1 = 0 then
      some (some (.int (0 : Int32)), h1)
    else
      (zgR r h1 x 0 1).bind fun v2 =>
      (zaI r h1 v2 i1).bind fun v3 =>
      if zob r h1 x 0 = true then
      (zcI (zev r i_X0_bitOfWhoIsInAt 0 [some (.ref x), some (.int (v3 - (1 : Int32))), some (.int i2), none] [] h1) fun v4 h2 =>
      (zgR r h2 x 0 1).bind fun v5 =>
      (zaI r h2 v5 i1).bind fun v6 =>
      if zob r h2 x 0 = true then
      (zcI (zev r i_X0_bitOfWhoIsInAt 0 [some (.ref x), some (.int (v6 + (1 : Int32))), some (.int i2), none] [] h2) fun v7 h3 =>
      some (some (.int (v4 ||| v7)), h3))
      else none)
      else none)
    else none) := zblk r [] 29 _ _ _ _ _
set_option maxRecDepth 100000 in
theorem E_X0_wakings_0 (r : zE) (h : zH) (x : Nat) (i1 : Int32) (i2 : Int32) : zev r i_X0_wakings 0 [some (.ref x), some (.int i1), some (.int i2), none, none] [] h =
    (if zob r h x 0 = true then
    (zcI (zev r i_X0_isIn 0 [some (.ref x), some (.int i1), some (.int i2)] [] h) fun v1 h1 =>
    if v1 = 0 then
      some (some (.int (0 : Int32)), h1)
    else
      (zgR r h1 x 0 1).bind fun v2 =>
      (zaI r h1 v2 i1).bind fun v3 =>
      (zgR r h1 x 0 0).bind fun v4 =>
      if zob r h1 v4 1 = true then
      (zcI (zev r i_X1_placeWakes 0 [some (.ref v4), some (.int v3)] [] h1) fun v5 h2 =>
      if zob r h2 x 0 = true then
      (zcI (zev r i_X0_wakingsFrom 0 [some (.ref x), some (.int (v3 - (1 : Int32))), some (.int i1), some (.int i2), none, none] [] h2) fun v6 h3 =>
      if zob r h3 x 0 = true then
      (zcI (zev r i_X0_wakingsFrom 0 [some (.ref x), some (.int (v3 + (1 : Int32))), some (.int i1), some (.int i2), none, none] [] h3) fun v7 h4 =>
      (zgR r h4 x 0 0).bind fun v8 =>
      (zgR r h4 v8 1 3).bind fun v9 =>
      (zaI r h4 v9 i1).bind fun v10 =>
      if v10 = (5 : Int32) then
        some (some (.int ((2 : Int32) * (if (0 : Int32) < ((v5 + v6) + v7) then ((v5 + v6) + v7) else (0 : Int32)))), h4)
      else
        some (some (.int (if (0 : Int32) < ((v5 + v6) + v7) then ((v5 + v6) + v7) else (0 : Int32))), h4))
      else none)
      else none)
      else none)
    else none) := zblk r [] 53 _ _ _ _ _
set_option maxRecDepth 100000 in
theorem E_X0_wakingsFrom_0 (r : zE) (h : zH) (x : Nat) (i1 : Int32) (i2 : Int32) (i3 : Int32) : zev r i_X0_wakingsFrom 0 [some (.ref x), some (.int i1), some (.int i2), some (.int i3), none, none] [] h =
    ((zgR r h x 0 0).bind fun v1 =>
    if zob r h v1 1 = true then
    (zcI (zev r i_X1_hasHook 0 [some (.ref v1), some (.int i1)] [] h) fun v2 h1 =>
    if v2 = 0 then
      some (some (.int (0 : Int32)), h1)
    else
      (zgR r h1 x 0 2).bind fun v3 =>
      (zaI r h1 v3 i1).bind fun v4 =>
      (zgR r h1 x 0 0).bind fun v5 =>
      if zob r h1 v5 1 = true then
      (zcI (zev r i_X1_hasMan 0 [some (.ref v5), some (.int v4)] [] h1) fun v6 h2 =>
      if v6 = 0 then
        some (some (.int (0 : Int32)), h2)
      else
        if zob r h2 x 0 = true then
        (zcI (zev r i_X0_isIn 0 [some (.ref x), some (.int v4), some (.int i3)] [] h2) fun v7 h3 =>
        if v7 = 0 then
          some (some (.int (0 : Int32)), h3)
        else
          (zgR r h3 x 0 0).bind fun v8 =>
          (zgR r h3 v8 1 3).bind fun v9 =>
          (zaI r h3 v9 v4).bind fun v10 =>
          if v10 = (2 : Int32) then
            (zgR r h3 x 0 0).bind fun v11 =>
            (zgR r h3 v11 1 3).bind fun v12 =>
            (zaI r h3 v12 i2).bind fun v13 =>
            if v13 = (3 : Int32) then
              zev r i_X0_wakingsFrom 77 [some (.ref x), some (.int i1), some (.int i2), some (.int i3), some (.int v4), none] [.int (0 : Int32)] h3
            else
              zev r i_X0_wakingsFrom 77 [some (.ref x), some (.int i1), some (.int i2), some (.int i3), some (.int v4), none] [.int (1 : Int32)] h3
          else
            zev r i_X0_wakingsFrom 77 [some (.ref x), some (.int i1), some (.int i2), some (.int i3), some (.int v4), none] [.int (0 : Int32)] h3)
        else none)
      else none)
    else none) := zblk r [77] 72 _ _ _ _ _
set_option maxRecDepth 100000 in
theorem E_X0_wakingsFrom_77 (r : zE) (h : zH) (x : Nat) (l1 : Int32) (l2 : Int32) (l3 : Int32) (l4 : Int32) (s0 : Int32) : zev r i_X0_wakingsFrom 77 [some (.ref x), some (.int l1), some (.int l2), some (.int l3), some (.int l4), none] [.int s0] h =
    ((zgR r h x 0 3).bind fun v1 =>
    (zaI r h v1 l2).bind fun v2 =>
    (zgR r h x 0 3).bind fun v3 =>
    (zaI r h v3 l4).bind fun v4 =>
    (zgR r h x 0 0).bind fun v5 =>
    if zob r h v5 1 = true then
    (zcI (zev r i_X1_bulk 0 [some (.ref v5), some (.int l2)] [] h) fun v6 h1 =>
    (zgR r h1 x 0 0).bind fun v7 =>
    if zob r h1 v7 1 = true then
    (zcI (zev r i_X1_bulk 0 [some (.ref v7), some (.int l4)] [] h1) fun v8 h2 =>
    if s0 = 0 then
      some (some (.int ((((if 0 ≤ (v2 - v4) then (v2 - v4) else 0 - (v2 - v4)) + v6) + v8) + (0 : Int32))), h2)
    else
      some (some (.int ((((if 0 ≤ (v2 - v4) then (v2 - v4) else 0 - (v2 - v4)) + v6) + v8) + (2 : Int32))), h2))
    else none)
    else none) := zblk r [77] 72 _ _ _ _ _
set_option maxRecDepth 100000 in
theorem E_X0_allWakings_0 (r : zE) (h : zH) (x : Nat) (i1 : Int32) : zev r i_X0_allWakings 0 [some (.ref x), some (.int i1), none, none] [] h =
    (zev r i_X0_allWakings 4 [some (.ref x), some (.int i1), some (.int (0 : Int32)), some (.int (0 : Int32))] [] h) := zblk r [4] 23 _ _ _ _ _
set_option maxRecDepth 100000 in
theorem E_X0_allWakings_4 (r : zE) (h : zH) (x : Nat) (l1 : Int32) (l2 : Int32) (l3 : Int32) : zev r i_X0_allWakings 4 [some (.ref x), some (.int l1), some (.int l2), some (.int l3)] [] h =
    ((zgR r h x 0 0).bind fun v1 =>
    (zgI r h v1 1 1).bind fun v2 =>
    if l3 < v2 then
      if zob r h x 0 = true then
      (zcI (zev r i_X0_wakings 0 [some (.ref x), some (.int l3), some (.int l1), none, none] [] h) fun v3 h1 =>
      zev r i_X0_allWakings 4 [some (.ref x), some (.int l1), some (.int (l2 + v3)), some (.int (l3 + (1 : Int32)))] [] h1)
      else none
    else
      some (some (.int l2), h)) := zblk r [4] 23 _ _ _ _ _
set_option maxRecDepth 100000 in
theorem E_X0_mostWakings_0 (r : zE) (h : zH) (x : Nat) (i1 : Int32) : zev r i_X0_mostWakings 0 [some (.ref x), some (.int i1), none, none] [] h =
    (zev r i_X0_mostWakings 4 [some (.ref x), some (.int i1), some (.int (0 : Int32)), some (.int (0 : Int32))] [] h) := zblk r [4] 23 _ _ _ _ _
set_option maxRecDepth 100000 in
theorem E_X0_mostWakings_4 (r : zE) (h : zH) (x : Nat) (l1 : Int32) (l2 : Int32) (l3 : Int32) : zev r i_X0_mostWakings 4 [some (.ref x), some (.int l1), some (.int l2), some (.int l3)] [] h =
    ((zgR r h x 0 0).bind fun v1 =>
    (zgI r h v1 1 1).bind fun v2 =>
    if l3 < v2 then
      if zob r h x 0 = true then
      (zcI (zev r i_X0_wakings 0 [some (.ref x), some (.int l3), some (.int l1), none, none] [] h) fun v3 h1 =>
      zev r i_X0_mostWakings 4 [some (.ref x), some (.int l1), some (.int (if l2 < v3 then v3 else l2)), some (.int (l3 + (1 : Int32)))] [] h1)
      else none
    else
      some (some (.int l2), h)) := zblk r [4] 23 _ _ _ _ _
set_option maxRecDepth 100000 in
theorem E_X0_tire_0 (r : zE) (h : zH) (x : Nat) (i1 : Int32) : zev r i_X0_tire 0 [some (.ref x), some (.int i1), none, none, none] [] h =
    (zev r i_X0_tire 4 [some (.ref x), some (.int i1), some (.int (0 : Int32)), some (.int (0 : Int32)), none] [] h) := zblk r [4] 42 _ _ _ _ _
set_option maxRecDepth 100000 in
theorem E_X0_tire_4 (r : zE) (h : zH) (x : Nat) (l1 : Int32) (l2 : Int32) (l3 : Int32) : zev r i_X0_tire 4 [some (.ref x), some (.int l1), some (.int l2), some (.int l3), none] [] h =
    ((zgR r h x 0 0).bind fun v1 =>
    (zgI r h v1 1 1).bind fun v2 =>
    if l3 < v2 then
      (zgR r h x 0 4).bind fun v3 =>
      (zaI r h v3 l3).bind fun v4 =>
      (zgR r h x 0 4).bind fun v5 =>
      if zob r h x 0 = true then
      (zcI (zev r i_X0_wakings 0 [some (.ref x), some (.int l3), some (.int l1), none, none] [] h) fun v6 h1 =>
      (zsI r h1 v5 l3 (if (v4 + v6) < (99 : Int32) then (v4 + v6) else (99 : Int32))).bind fun h2 =>
      (zgR r h2 x 0 4).bind fun v7 =>
      (zaI r h2 v7 l3).bind fun v8 =>
      zev r i_X0_tire 4 [some (.ref x), some (.int l1), some (.int (l2 + (v8 - v4))), some (.int (l3 + (1 : Int32))), none] [] h2)
      else none
    else
      some (some (.int l2), h)) := zblk r [4] 42 _ _ _ _ _
set_option maxRecDepth 100000 in
theorem E_X0_inTheWayOf_0 (r : zE) (h : zH) (x : Nat) (i1 : Int32) (i2 : Int32) : zev r i_X0_inTheWayOf 0 [some (.ref x), some (.int i1), some (.int i2), none, none, none] [] h =
    (if zob r h x 0 = true then
    (zcI (zev r i_X0_neighbourBits 0 [some (.ref x), some (.int i1), some (.int i2)] [] h) fun v1 h1 =>
    zev r i_X0_inTheWayOf 13 [some (.ref x), some (.int i1), some (.int i2), some (.int v1), some (.int (0 : Int32)), some (.int (0 : Int32))] [] h1)
    else none) := zblk r [13] 36 _ _ _ _ _
set_option maxRecDepth 100000 in
theorem E_X0_inTheWayOf_13 (r : zE) (h : zH) (x : Nat) (l1 : Int32) (l2 : Int32) (l3 : Int32) (l4 : Int32) (l5 : Int32) : zev r i_X0_inTheWayOf 13 [some (.ref x), some (.int l1), some (.int l2), some (.int l3), some (.int l4), some (.int l5)] [] h =
    ((zgR r h x 0 0).bind fun v1 =>
    (zgI r h v1 1 1).bind fun v2 =>
    if l5 < v2 then
      if (l3 &&& ((1 : Int32) <<< (l5 &&& 31))) = 0 then
        zev r i_X0_inTheWayOf 13 [some (.ref x), some (.int l1), some (.int l2), some (.int l3), some (.int l4), some (.int (l5 + (1 : Int32)))] [] h
      else
        (zgR r h x 0 0).bind fun v3 =>
        if zob r h v3 1 = true then
        (zcI (zev r i_X1_bulk 0 [some (.ref v3), some (.int l5)] [] h) fun v4 h1 =>
        zev r i_X0_inTheWayOf 13 [some (.ref x), some (.int l1), some (.int l2), some (.int l3), some (.int (l4 + ((1 : Int32) + v4))), some (.int (l5 + (1 : Int32)))] [] h1)
        else none
    else
      some (some (.int l4), h)) := zblk r [13] 36 _ _ _ _ _
set_option maxRecDepth 100000 in
theorem E_X0_firstToGetUp_0 (r : zE) (h : zH) (x : Nat) (i1 : Int32) : zev r i_X0_firstToGetUp 0 [some (.ref x), some (.int i1), none] [] h =
    (zev r i_X0_firstToGetUp 2 [some (.ref x), some (.int i1), some (.int (0 : Int32))] [] h) := zblk r [2] 26 _ _ _ _ _
set_option maxRecDepth 100000 in
theorem E_X0_firstToGetUp_2 (r : zE) (h : zH) (x : Nat) (l1 : Int32) (l2 : Int32) : zev r i_X0_firstToGetUp 2 [some (.ref x), some (.int l1), some (.int l2)] [] h =
    ((zgR r h x 0 0).bind fun v1 =>
    (zgI r h v1 1 1).bind fun v2 =>
    if l2 < v2 then
      if zob r h x 0 = true then
      (zcI (zev r i_X0_isIn 0 [some (.ref x), some (.int l2), some (.int l1)] [] h) fun v3 h1 =>
      if v3 = 0 then
        zev r i_X0_firstToGetUp 2 [some (.ref x), some (.int l1), some (.int (l2 + (1 : Int32)))] [] h1
      else
        if zob r h1 x 0 = true then
        (zcI (zev r i_X0_hasBulkierNeighbour 0 [some (.ref x), some (.int l2), some (.int l1), none, none] [] h1) fun v4 h2 =>
        if v4 = 0 then
          some (some (.int l2), h2)
        else
          zev r i_X0_firstToGetUp 2 [some (.ref x), some (.int l1), some (.int (l2 + (1 : Int32)))] [] h2)
        else none)
      else none
    else
      some (some (.int (-9 : Int32)), h)) := zblk r [2] 26 _ _ _ _ _
set_option maxRecDepth 100000 in
theorem E_X0_hasBulkierNeighbour_0 (r : zE) (h : zH) (x : Nat) (i1 : Int32) (i2 : Int32) : zev r i_X0_hasBulkierNeighbour 0 [some (.ref x), some (.int i1), some (.int i2), none, none] [] h =
    (if zob r h x 0 = true then
    (zcI (zev r i_X0_neighbourBits 0 [some (.ref x), some (.int i1), some (.int i2)] [] h) fun v1 h1 =>
    zev r i_X0_hasBulkierNeighbour 10 [some (.ref x), some (.int i1), some (.int i2), some (.int v1), some (.int (0 : Int32))] [] h1)
    else none) := zblk r [10] 36 _ _ _ _ _
set_option maxRecDepth 100000 in
theorem E_X0_hasBulkierNeighbour_10 (r : zE) (h : zH) (x : Nat) (l1 : Int32) (l2 : Int32) (l3 : Int32) (l4 : Int32) : zev r i_X0_hasBulkierNeighbour 10 [some (.ref x), some (.int l1), some (.int l2), some (.int l3), some (.int l4)] [] h =
    ((zgR r h x 0 0).bind fun v1 =>
    (zgI r h v1 1 1).bind fun v2 =>
    if l4 < v2 then
      if (l3 &&& ((1 : Int32) <<< (l4 &&& 31))) = 0 then
        zev r i_X0_hasBulkierNeighbour 10 [some (.ref x), some (.int l1), some (.int l2), some (.int l3), some (.int (l4 + (1 : Int32)))] [] h
      else
        (zgR r h x 0 0).bind fun v3 =>
        if zob r h v3 1 = true then
        (zcI (zev r i_X1_bulk 0 [some (.ref v3), some (.int l4)] [] h) fun v4 h1 =>
        (zgR r h1 x 0 0).bind fun v5 =>
        if zob r h1 v5 1 = true then
        (zcI (zev r i_X1_bulk 0 [some (.ref v5), some (.int l1)] [] h1) fun v6 h2 =>
        if v6 < v4 then
          some (some (.int (1 : Int32)), h2)
        else
          zev r i_X0_hasBulkierNeighbour 10 [some (.ref x), some (.int l1), some (.int l2), some (.int l3), some (.int (l4 + (1 : Int32)))] [] h2)
        else none)
        else none
    else
      some (some (.int (0 : Int32)), h)) := zblk r [10] 36 _ _ _ _ _
set_option maxRecDepth 100000 in
theorem E_X1_init_0 (r : zE) (h : zH) (x : Nat) : zev r i_X1_init 0 [some (.ref x)] [] h =
    ((zpF r h x 1 0 (.int (0 : Int32))).bind fun h1 =>
    (zpF r h1 x 1 1 (.int (0 : Int32))).bind fun h2 =>
    (zpF r (h2 ++ [.inl (7, fun _ => 0)] : zH) x 1 2 (.ref (r.1 + h2.length))).bind fun h3 =>
    (zpF r (h3 ++ [.inl (6, fun _ => 0)] : zH) x 1 3 (.ref (r.1 + h3.length))).bind fun h4 =>
    (zpF r (h4 ++ [.inl (6, fun _ => 0)] : zH) x 1 4 (.ref (r.1 + h4.length))).bind fun h5 =>
    (zpF r (h5 ++ [.inl (6, fun _ => 0)] : zH) x 1 5 (.ref (r.1 + h5.length))).bind fun h6 =>
    (zpF r (h6 ++ [.inl (6, fun _ => 0)] : zH) x 1 6 (.ref (r.1 + h6.length))).bind fun h7 =>
    some (none, h7)) := zblk r [] 32 _ _ _ _ _
set_option maxRecDepth 100000 in
theorem E_X1_hasHook_0 (r : zE) (h : zH) (x : Nat) (i1 : Int32) : zev r i_X1_hasHook 0 [some (.ref x), some (.int i1)] [] h =
    (if i1 < 0 then
      some (some (.int (0 : Int32)), h)
    else
      (zgI r h x 1 0).bind fun v1 =>
      if i1 < v1 then
        some (some (.int (1 : Int32)), h)
      else
        some (some (.int (0 : Int32)), h)) := zblk r [] 13 _ _ _ _ _
set_option maxRecDepth 100000 in
theorem E_X1_hasMan_0 (r : zE) (h : zH) (x : Nat) (i1 : Int32) : zev r i_X1_hasMan 0 [some (.ref x), some (.int i1)] [] h =
    (if i1 < 0 then
      some (some (.int (0 : Int32)), h)
    else
      (zgI r h x 1 1).bind fun v1 =>
      if i1 < v1 then
        some (some (.int (1 : Int32)), h)
      else
        some (some (.int (0 : Int32)), h)) := zblk r [] 13 _ _ _ _ _
set_option maxRecDepth 100000 in
theorem E_X1_addHook_0 (r : zE) (h : zH) (x : Nat) (i1 : Int32) : zev r i_X1_addHook 0 [some (.ref x), some (.int i1)] [] h =
    ((zgI r h x 1 0).bind fun v1 =>
    if v1 < (7 : Int32) then
      (zgR r h x 1 2).bind fun v2 =>
      (zgI r h x 1 0).bind fun v3 =>
      (zsI r h v2 v3 i1).bind fun h1 =>
      (zgI r h1 x 1 0).bind fun v4 =>
      (zpF r h1 x 1 0 (.int (v4 + (1 : Int32)))).bind fun h2 =>
      some (none, h2)
    else
      some (none, h)) := zblk r [] 21 _ _ _ _ _
set_option maxRecDepth 100000 in
theorem E_X1_addMan_0 (r : zE) (h : zH) (x : Nat) (i1 : Int32) (i2 : Int32) (i3 : Int32) (i4 : Int32) : zev r i_X1_addMan 0 [some (.ref x), some (.int i1), some (.int i2), some (.int i3), some (.int i4)] [] h =
    ((zgI r h x 1 1).bind fun v1 =>
    if zob r h x 1 = true then
    (zcI (zev r i_X1_mostMen 0 [some (.ref x)] [] h) fun v2 h1 =>
    if v1 < v2 then
      (zgR r h1 x 1 3).bind fun v3 =>
      (zgI r h1 x 1 1).bind fun v4 =>
      (zsI r h1 v3 v4 i1).bind fun h2 =>
      (zgR r h2 x 1 4).bind fun v5 =>
      (zgI r h2 x 1 1).bind fun v6 =>
      (zsI r h2 v5 v6 i2).bind fun h3 =>
      (zgR r h3 x 1 5).bind fun v7 =>
      (zgI r h3 x 1 1).bind fun v8 =>
      (zsI r h3 v7 v8 i3).bind fun h4 =>
      (zgR r h4 x 1 6).bind fun v9 =>
      (zgI r h4 x 1 1).bind fun v10 =>
      (zsI r h4 v9 v10 i4).bind fun h5 =>
      (zgI r h5 x 1 1).bind fun v11 =>
      (zpF r h5 x 1 1 (.int (v11 + (1 : Int32)))).bind fun h6 =>
      some (none, h6)
    else
      some (none, h1))
    else none) := zblk r [] 40 _ _ _ _ _
set_option maxRecDepth 100000 in
theorem E_X1_mostMen_0 (r : zE) (h : zH) (x : Nat) : zev r i_X1_mostMen 0 [some (.ref x)] [] h =
    ((zgI r h x 1 0).bind fun v1 =>
    some (some (.int (if v1 < (6 : Int32) then v1 else (6 : Int32))), h)) := zblk r [] 8 _ _ _ _ _
set_option maxRecDepth 100000 in
theorem E_X1_planCount_0 (r : zE) (h : zH) (x : Nat) : zev r i_X1_planCount 0 [some (.ref x), none, none] [] h =
    (zev r i_X1_planCount 4 [some (.ref x), some (.int (1 : Int32)), some (.int (0 : Int32))] [] h) := zblk r [4] 22 _ _ _ _ _
set_option maxRecDepth 100000 in
theorem E_X1_planCount_4 (r : zE) (h : zH) (x : Nat) (l1 : Int32) (l2 : Int32) : zev r i_X1_planCount 4 [some (.ref x), some (.int l1), some (.int l2)] [] h =
    ((zgI r h x 1 1).bind fun v1 =>
    if l2 < v1 then
      (zgI r h x 1 0).bind fun v2 =>
      zev r i_X1_planCount 4 [some (.ref x), some (.int (l1 * (v2 - l2))), some (.int (l2 + (1 : Int32)))] [] h
    else
      some (some (.int l1), h)) := zblk r [4] 22 _ _ _ _ _
set_option maxRecDepth 100000 in
theorem E_X1_isOf_0 (r : zE) (h : zH) (x : Nat) (i1 : Int32) (i2 : Int32) : zev r i_X1_isOf 0 [some (.ref x), some (.int i1), some (.int i2)] [] h =
    ((zgR r h x 1 3).bind fun v1 =>
    (zaI r h v1 i1).bind fun v2 =>
    if v2 = i2 then
      some (some (.int (1 : Int32)), h)
    else
      if i2 = (1 : Int32) then
        (zgR r h x 1 3).bind fun v3 =>
        (zaI r h v3 i1).bind fun v4 =>
        if v4 = (4 : Int32) then
          some (some (.int (1 : Int32)), h)
        else
          some (some (.int (0 : Int32)), h)
      else
        some (some (.int (0 : Int32)), h)) := zblk r [] 22 _ _ _ _ _
set_option maxRecDepth 100000 in
theorem E_X1_bitsOf_0 (r : zE) (h : zH) (x : Nat) (i1 : Int32) : zev r i_X1_bitsOf 0 [some (.ref x), some (.int i1), none, none] [] h =
    (zev r i_X1_bitsOf 4 [some (.ref x), some (.int i1), some (.int (0 : Int32)), some (.int (0 : Int32))] [] h) := zblk r [4] 26 _ _ _ _ _
set_option maxRecDepth 100000 in
theorem E_X1_bitsOf_4 (r : zE) (h : zH) (x : Nat) (l1 : Int32) (l2 : Int32) (l3 : Int32) : zev r i_X1_bitsOf 4 [some (.ref x), some (.int l1), some (.int l2), some (.int l3)] [] h =
    ((zgI r h x 1 1).bind fun v1 =>
    if l3 < v1 then
      if zob r h x 1 = true then
      (zcI (zev r i_X1_isOf 0 [some (.ref x), some (.int l3), some (.int l1)] [] h) fun v2 h1 =>
      if v2 = 0 then
        zev r i_X1_bitsOf 4 [some (.ref x), some (.int l1), some (.int l2), some (.int (l3 + (1 : Int32)))] [] h1
      else
        zev r i_X1_bitsOf 4 [some (.ref x), some (.int l1), some (.int (l2 ||| ((1 : Int32) <<< (l3 &&& 31)))), some (.int (l3 + (1 : Int32)))] [] h1)
      else none
    else
      some (some (.int l2), h)) := zblk r [4] 26 _ _ _ _ _
set_option maxRecDepth 100000 in
theorem E_X1_bulk_0 (r : zE) (h : zH) (x : Nat) (i1 : Int32) : zev r i_X1_bulk 0 [some (.ref x), some (.int i1)] [] h =
    ((zgR r h x 1 3).bind fun v1 =>
    (zaI r h v1 i1).bind fun v2 =>
    (zaI r h (r.2.2 0) v2).bind fun v3 =>
    some (some (.int v3), h)) := zblk r [] 10 _ _ _ _ _
set_option maxRecDepth 100000 in
theorem E_X1_placeWakes_0 (r : zE) (h : zH) (x : Nat) (i1 : Int32) : zev r i_X1_placeWakes 0 [some (.ref x), some (.int i1)] [] h =
    ((zgR r h x 1 2).bind fun v1 =>
    (zaI r h v1 i1).bind fun v2 =>
    (zaI r h (r.2.2 3) v2).bind fun v3 =>
    some (some (.int v3), h)) := zblk r [] 10 _ _ _ _ _
set_option maxRecDepth 100000 in
theorem E_X2_init_0 (r : zE) (h : zH) (x : Nat) (i1 : Int32) : zev r i_X2_init 0 [some (.ref x), some (.int i1)] [] h =
    ((zpF r (h ++ [.inl (1098, fun _ => 0)] : zH) x 2 0 (.ref (r.1 + h.length))).bind fun h1 =>
    (zpF r h1 x 2 1 (.int i1)).bind fun h2 =>
    some (none, h2)) := zblk r [] 13 _ _ _ _ _
set_option maxRecDepth 100000 in
theorem E_X2_isMissing_0 (r : zE) (h : zH) (x : Nat) : zev r i_X2_isMissing 0 [some (.ref x)] [] h =
    ((zgI r h x 2 1).bind fun v1 =>
    if v1 = (-1 : Int32) then
      some (some (.int (1 : Int32)), h)
    else
      some (some (.int (0 : Int32)), h)) := zblk r [] 11 _ _ _ _ _
set_option maxRecDepth 100000 in
theorem E_X2_hasRoomFor_0 (r : zE) (h : zH) (x : Nat) (i1 : Int32) : zev r i_X2_hasRoomFor 0 [some (.ref x), some (.int i1)] [] h =
    ((zgI r h x 2 1).bind fun v1 =>
    if ((60 : Int32) - v1) < i1 then
      some (some (.int (0 : Int32)), h)
    else
      some (some (.int (1 : Int32)), h)) := zblk r [] 13 _ _ _ _ _
set_option maxRecDepth 100000 in
theorem E_X2_begin_0 (r : zE) (h : zH) (x : Nat) (a1 : Nat) : zev r i_X2_begin 0 [some (.ref x), some (.ref a1)] [] h =
    ((zpF r h x 2 1 (.int (0 : Int32))).bind fun h1 =>
    (zgR r h1 x 2 0).bind fun v1 =>
    if zob r h1 a1 0 = true then
    (zcV (zev r i_X0_writeTo 0 [some (.ref a1), some (.ref v1), some (.int (0 : Int32))] [] h1) fun h2 =>
    some (none, h2))
    else none) := zblk r [] 12 _ _ _ _ _
set_option maxRecDepth 100000 in
theorem E_X2_add_0 (r : zE) (h : zH) (x : Nat) (a1 : Nat) : zev r i_X2_add 0 [some (.ref x), some (.ref a1)] [] h =
    (if zob r h x 2 = true then
    (zcI (zev r i_X2_hasRoomFor 0 [some (.ref x), some (.int (1 : Int32))] [] h) fun v1 h1 =>
    if v1 = 0 then
      some (none, h1)
    else
      (zgI r h1 x 2 1).bind fun v2 =>
      (zpF r h1 x 2 1 (.int (v2 + (1 : Int32)))).bind fun h2 =>
      (zgR r h2 x 2 0).bind fun v3 =>
      (zgI r h2 x 2 1).bind fun v4 =>
      if zob r h2 a1 0 = true then
      (zcV (zev r i_X0_writeTo 0 [some (.ref a1), some (.ref v3), some (.int (v4 * (18 : Int32)))] [] h2) fun h3 =>
      some (none, h3))
      else none)
    else none) := zblk r [] 23 _ _ _ _ _
set_option maxRecDepth 100000 in
theorem E_X2_discard_0 (r : zE) (h : zH) (x : Nat) : zev r i_X2_discard 0 [some (.ref x)] [] h =
    ((zpF r h x 2 1 (.int (-1 : Int32))).bind fun h1 =>
    some (none, h1)) := zblk r [] 7 _ _ _ _ _
set_option maxRecDepth 100000 in
theorem E_X2_copyFrom_0 (r : zE) (h : zH) (x : Nat) (a1 : Nat) : zev r i_X2_copyFrom 0 [some (.ref x), some (.ref a1)] [] h =
    ((zgI r h a1 2 1).bind fun v1 =>
    (zpF r h x 2 1 (.int v1)).bind fun h1 =>
    (zgR r h1 a1 2 0).bind fun v2 =>
    (zgR r h1 x 2 0).bind fun v3 =>
    (zgR r h1 x 2 0).bind fun v4 =>
    (zaN r h1 v4).bind fun n5 =>
    (zcp r h1 v2 (0 : Int32) v3 (0 : Int32) (Int32.ofNat n5)).bind fun h2 =>
    some (none, h2)) := zblk r [] 18 _ _ _ _ _
set_option maxRecDepth 100000 in
theorem E_X2_goBackTo_0 (r : zE) (h : zH) (x : Nat) (i1 : Int32) (a2 : Nat) : zev r i_X2_goBackTo 0 [some (.ref x), some (.int i1), some (.ref a2)] [] h =
    (if i1 < 0 then
      some (none, h)
    else
      (zgI r h x 2 1).bind fun v1 =>
      if v1 < i1 then
        some (none, h)
      else
        (zpF r h x 2 1 (.int i1)).bind fun h1 =>
        (zgR r h1 x 2 0).bind fun v2 =>
        if zob r h1 a2 0 = true then
        (zcV (zev r i_X0_readFrom 0 [some (.ref a2), some (.ref v2), some (.int (i1 * (18 : Int32))), none] [] h1) fun h2 =>
        some (none, h2))
        else none) := zblk r [] 21 _ _ _ _ _
set_option maxRecDepth 100000 in
theorem E_X3_init_0 (r : zE) (h : zH) (x : Nat) (a1 : Nat) (a2 : Nat) : zev r i_X3_init 0 [some (.ref x), some (.ref a1), some (.ref a2)] [] h =
    ((zpF r h x 3 2 (.int (0 : Int32))).bind fun h1 =>
    (zpF r h1 x 3 0 (.ref a1)).bind fun h2 =>
    (zpF r h2 x 3 1 (.ref a2)).bind fun h3 =>
    some (none, h3)) := zblk r [] 15 _ _ _ _ _
set_option maxRecDepth 100000 in
theorem E_X3_read_0 (r : zE) (h : zH) (x : Nat) : zev r i_X3_read 0 [some (.ref x), none, none] [] h =
    (if zob r h x 3 = true then
    (zcV (zev r i_X3_skipBlanks 0 [some (.ref x)] [] h) fun h1 =>
    if zob r h1 x 3 = true then
    (zcI (zev r i_X3_readHooks 0 [some (.ref x), none] [] h1) fun v1 h2 =>
    if v1 = 0 then
      (zgI r h2 x 3 2).bind fun v2 =>
      some (some (.int v2), h2)
    else
      if zob r h2 x 3 = true then
      (zcV (zev r i_X3_skipBlanks 0 [some (.ref x)] [] h2) fun h3 =>
      (zgR r h3 x 3 1).bind fun v3 =>
      if zob r h3 v3 1 = true then
      (zcI (zev r i_X1_mostMen 0 [some (.ref v3)] [] h3) fun v4 h4 =>
      zev r i_X3_read 30 [some (.ref x), some (.int v4), some (.int (0 : Int32))] [] h4)
      else none)
      else none)
    else none)
    else none) := zblk r [30, 71] 53 _ _ _ _ _
set_option maxRecDepth 100000 in
theorem E_X3_read_30 (r : zE) (h : zH) (x : Nat) (l1 : Int32) (l2 : Int32) : zev r i_X3_read 30 [some (.ref x), some (.int l1), some (.int l2)] [] h =
    (if l2 < l1 then
      (zgI r h x 3 2).bind fun v1 =>
      (zgR r h x 3 0).bind fun v2 =>
      (zgI r h v2 4 1).bind fun v3 =>
      if v1 < v3 then
        if zob r h x 3 = true then
        (zcI (zev r i_X3_readMan 0 [some (.ref x), none, none, none, none] [] h) fun v4 h1 =>
        if v4 = 0 then
          (zgI r h1 x 3 2).bind fun v5 =>
          some (some (.int v5), h1)
        else
          if zob r h1 x 3 = true then
          (zcV (zev r i_X3_skipBlanks 0 [some (.ref x)] [] h1) fun h2 =>
          zev r i_X3_read 30 [some (.ref x), some (.int l1), some (.int (l2 + (1 : Int32)))] [] h2)
          else none)
        else none
      else
        zev r i_X3_read 71 [some (.ref x), some (.int l1), some (.int l2)] [] h
    else
      zev r i_X3_read 71 [some (.ref x), some (.int l1), some (.int l2)] [] h) := zblk r [30, 71] 53 _ _ _ _ _
set_option maxRecDepth 100000 in
theorem E_X3_read_71 (r : zE) (h : zH) (x : Nat) (l1 : Int32) (l2 : Int32) : zev r i_X3_read 71 [some (.ref x), some (.int l1), some (.int l2)] [] h =
    ((zgR r h x 3 1).bind fun v1 =>
    (zgI r h v1 1 1).bind fun v2 =>
    if 0 < v2 then
      (zgI r h x 3 2).bind fun v3 =>
      (zgR r h x 3 0).bind fun v4 =>
      (zgI r h v4 4 1).bind fun v5 =>
      if v3 = v5 then
        some (some (.int (-9 : Int32)), h)
      else
        (zgI r h x 3 2).bind fun v6 =>
        some (some (.int v6), h)
    else
      (zgI r h x 3 2).bind fun v7 =>
      some (some (.int v7), h)) := zblk r [30, 71] 53 _ _ _ _ _
set_option maxRecDepth 100000 in
theorem E_X3_skipBlanks_0 (r : zE) (h : zH) (x : Nat) : zev r i_X3_skipBlanks 0 [some (.ref x)] [] h =
    ((zgI r h x 3 2).bind fun v1 =>
    (zgR r h x 3 0).bind fun v2 =>
    (zgI r h v2 4 1).bind fun v3 =>
    if v1 < v3 then
      (zgR r h x 3 0).bind fun v4 =>
      (zgI r h x 3 2).bind fun v5 =>
      if zob r h v4 4 = true then
      (zcI (zev r i_X4_get 0 [some (.ref v4), some (.int v5)] [] h) fun v6 h1 =>
      if v6 = (32 : Int32) then
        (zgI r h1 x 3 2).bind fun v7 =>
        (zpF r h1 x 3 2 (.int (v7 + (1 : Int32)))).bind fun h2 =>
        zev r i_X3_skipBlanks 0 [some (.ref x)] [] h2
      else
        some (none, h1))
      else none
    else
      some (none, h)) := zblk r [0] 24 _ _ _ _ _
set_option maxRecDepth 100000 in
theorem E_X3_readHooks_0 (r : zE) (h : zH) (x : Nat) : zev r i_X3_readHooks 0 [some (.ref x), none] [] h =
    ((zgR r h x 3 0).bind fun v1 =>
    (zgI r h x 3 2).bind fun v2 =>
    if zob r h v1 4 = true then
    (zcI (zev r i_X4_has 0 [some (.ref v1), some (.int v2)] [] h) fun v3 h1 =>
    if v3 = 0 then
      some (some (.int (0 : Int32)), h1)
    else
      (zgR r h1 x 3 0).bind fun v4 =>
      (zgI r h1 x 3 2).bind fun v5 =>
      if zob r h1 v4 4 = true then
      (zcI (zev r i_X4_get 0 [some (.ref v4), some (.int v5)] [] h1) fun v6 h2 =>
      if v6 = (107 : Int32) then
        (zgI r h2 x 3 2).bind fun v7 =>
        (zpF r h2 x 3 2 (.int (v7 + (1 : Int32)))).bind fun h3 =>
        zev r i_X3_readHooks 42 [some (.ref x), none] [] h3
      else
        some (some (.int (0 : Int32)), h2))
      else none)
    else none) := zblk r [42] 65 _ _ _ _ _
set_option maxRecDepth 100000 in
theorem E_X3_readHooks_42 (r : zE) (h : zH) (x : Nat) : zev r i_X3_readHooks 42 [some (.ref x), none] [] h =
    ((zgI r h x 3 2).bind fun v1 =>
    (zgR r h x 3 0).bind fun v2 =>
    (zgI r h v2 4 1).bind fun v3 =>
    if v1 < v3 then
      if zob r h x 3 = true then
      (zcI (zev r i_X3_letterIn 0 [some (.ref x), some (.ref (r.2.2 2)), none] [] h) fun v4 h1 =>
      if v4 = (-9 : Int32) then
        (zgR r h1 x 3 1).bind fun v5 =>
        (zgI r h1 v5 1 0).bind fun v6 =>
        if v6 < (2 : Int32) then
          some (some (.int (0 : Int32)), h1)
        else
          some (some (.int (1 : Int32)), h1)
      else
        (zgR r h1 x 3 1).bind fun v7 =>
        (zgI r h1 v7 1 0).bind fun v8 =>
        if v8 = (7 : Int32) then
          some (some (.int (0 : Int32)), h1)
        else
          (zgR r h1 x 3 1).bind fun v9 =>
          if zob r h1 v9 1 = true then
          (zcV (zev r i_X1_addHook 0 [some (.ref v9), some (.int v4)] [] h1) fun h2 =>
          (zgI r h2 x 3 2).bind fun v10 =>
          (zpF r h2 x 3 2 (.int (v10 + (1 : Int32)))).bind fun h3 =>
          zev r i_X3_readHooks 42 [some (.ref x), none] [] h3)
          else none)
      else none
    else
      (zgR r h x 3 1).bind fun v11 =>
      (zgI r h v11 1 0).bind fun v12 =>
      if v12 < (2 : Int32) then
        some (some (.int (0 : Int32)), h)
      else
        some (some (.int (1 : Int32)), h)) := zblk r [42] 65 _ _ _ _ _
set_option maxRecDepth 100000 in
theorem E_X3_readMan_0 (r : zE) (h : zH) (x : Nat) : zev r i_X3_readMan 0 [some (.ref x), none, none, none, none] [] h =
    (if zob r h x 3 = true then
    (zcI (zev r i_X3_letterIn 0 [some (.ref x), some (.ref (r.2.2 1)), none] [] h) fun v1 h1 =>
    if v1 = (-9 : Int32) then
      some (some (.int (0 : Int32)), h1)
    else
      (zgI r h1 x 3 2).bind fun v2 =>
      (zpF r h1 x 3 2 (.int (v2 + (1 : Int32)))).bind fun h2 =>
      if zob r h2 x 3 = true then
      (zcI (zev r i_X3_readFigure 0 [some (.ref x), some (.int (1 : Int32)), some (.int (9 : Int32)), none] [] h2) fun v3 h3 =>
      if v3 = (-9 : Int32) then
        some (some (.int (0 : Int32)), h3)
      else
        if zob r h3 x 3 = true then
        (zcI (zev r i_X3_readFigure 0 [some (.ref x), some (.int (0 : Int32)), some (.int (1 : Int32)), none] [] h3) fun v4 h4 =>
        if v4 = (-9 : Int32) then
          some (some (.int (0 : Int32)), h4)
        else
          if zob r h4 x 3 = true then
          (zcI (zev r i_X3_readFigure 0 [some (.ref x), some (.int (0 : Int32)), some (.int (3 : Int32)), none] [] h4) fun v5 h5 =>
          if v5 = (-9 : Int32) then
            some (some (.int (0 : Int32)), h5)
          else
            (zgR r h5 x 3 1).bind fun v6 =>
            if zob r h5 v6 1 = true then
            (zcV (zev r i_X1_addMan 0 [some (.ref v6), some (.int v1), some (.int v3), some (.int v4), some (.int v5)] [] h5) fun h6 =>
            some (some (.int (1 : Int32)), h6))
            else none)
          else none)
        else none)
      else none)
    else none) := zblk r [] 57 _ _ _ _ _
set_option maxRecDepth 100000 in
theorem E_X3_letterIn_0 (r : zE) (h : zH) (x : Nat) (a1 : Nat) : zev r i_X3_letterIn 0 [some (.ref x), some (.ref a1), none] [] h =
    (zev r i_X3_letterIn 2 [some (.ref x), some (.ref a1), some (.int (0 : Int32))] [] h) := zblk r [2] 30 _ _ _ _ _
set_option maxRecDepth 100000 in
theorem E_X3_letterIn_2 (r : zE) (h : zH) (x : Nat) (l1 : Nat) (l2 : Int32) : zev r i_X3_letterIn 2 [some (.ref x), some (.ref l1), some (.int l2)] [] h =
    ((zaN r h l1).bind fun n1 =>
    if l2 < (Int32.ofNat n1) then
      (zgR r h x 3 0).bind fun v2 =>
      (zgI r h x 3 2).bind fun v3 =>
      if zob r h v2 4 = true then
      (zcI (zev r i_X4_has 0 [some (.ref v2), some (.int v3)] [] h) fun v4 h1 =>
      if v4 = 0 then
        zev r i_X3_letterIn 2 [some (.ref x), some (.ref l1), some (.int (l2 + (1 : Int32)))] [] h1
      else
        (zgR r h1 x 3 0).bind fun v5 =>
        (zgI r h1 x 3 2).bind fun v6 =>
        if zob r h1 v5 4 = true then
        (zcI (zev r i_X4_get 0 [some (.ref v5), some (.int v6)] [] h1) fun v7 h2 =>
        (zaC r l1 l2).bind fun v8 =>
        if v7 = v8 then
          some (some (.int l2), h2)
        else
          zev r i_X3_letterIn 2 [some (.ref x), some (.ref l1), some (.int (l2 + (1 : Int32)))] [] h2)
        else none)
      else none
    else
      some (some (.int (-9 : Int32)), h)) := zblk r [2] 30 _ _ _ _ _
set_option maxRecDepth 100000 in
theorem E_X3_readFigure_0 (r : zE) (h : zH) (x : Nat) (i1 : Int32) (i2 : Int32) : zev r i_X3_readFigure 0 [some (.ref x), some (.int i1), some (.int i2), none] [] h =
    ((zgR r h x 3 0).bind fun v1 =>
    (zgI r h x 3 2).bind fun v2 =>
    if zob r h v1 4 = true then
    (zcI (zev r i_X4_has 0 [some (.ref v1), some (.int v2)] [] h) fun v3 h1 =>
    if v3 = 0 then
      zev r i_X3_readFigure 33 [some (.ref x), some (.int i1), some (.int i2), none] [.int (-9 : Int32)] h1
    else
      (zgR r h1 x 3 0).bind fun v4 =>
      (zgI r h1 x 3 2).bind fun v5 =>
      if zob r h1 v4 4 = true then
      (zcI (zev r i_X4_get 0 [some (.ref v4), some (.int v5)] [] h1) fun v6 h2 =>
      zev r i_X3_readFigure 33 [some (.ref x), some (.int i1), some (.int i2), none] [.int (v6 - (48 : Int32))] h2)
      else none)
    else none) := zblk r [33] 35 _ _ _ _ _
set_option maxRecDepth 100000 in
theorem E_X3_readFigure_33 (r : zE) (h : zH) (x : Nat) (l1 : Int32) (l2 : Int32) (s0 : Int32) : zev r i_X3_readFigure 33 [some (.ref x), some (.int l1), some (.int l2), none] [.int s0] h =
    (if s0 < l1 then
      some (some (.int (-9 : Int32)), h)
    else
      if l2 < s0 then
        some (some (.int (-9 : Int32)), h)
      else
        (zgI r h x 3 2).bind fun v1 =>
        (zpF r h x 3 2 (.int (v1 + (1 : Int32)))).bind fun h1 =>
        some (some (.int s0), h1)) := zblk r [33] 35 _ _ _ _ _
set_option maxRecDepth 100000 in
theorem E_X4_init_0 (r : zE) (h : zH) (x : Nat) : zev r i_X4_init 0 [some (.ref x)] [] h =
    ((zpF r (h ++ [.inl (60, fun _ => 0)] : zH) x 4 0 (.ref (r.1 + h.length))).bind fun h1 =>
    (zpF r h1 x 4 1 (.int (-1 : Int32))).bind fun h2 =>
    some (none, h2)) := zblk r [] 13 _ _ _ _ _
set_option maxRecDepth 100000 in
theorem E_X4_isMissing_0 (r : zE) (h : zH) (x : Nat) : zev r i_X4_isMissing 0 [some (.ref x)] [] h =
    ((zgI r h x 4 1).bind fun v1 =>
    if v1 = (-1 : Int32) then
      some (some (.int (1 : Int32)), h)
    else
      some (some (.int (0 : Int32)), h)) := zblk r [] 11 _ _ _ _ _
set_option maxRecDepth 100000 in
theorem E_X4_has_0 (r : zE) (h : zH) (x : Nat) (i1 : Int32) : zev r i_X4_has 0 [some (.ref x), some (.int i1)] [] h =
    (if i1 < 0 then
      some (some (.int (0 : Int32)), h)
    else
      (zgI r h x 4 1).bind fun v1 =>
      if i1 < v1 then
        some (some (.int (1 : Int32)), h)
      else
        some (some (.int (0 : Int32)), h)) := zblk r [] 13 _ _ _ _ _
set_option maxRecDepth 100000 in
theorem E_X4_get_0 (r : zE) (h : zH) (x : Nat) (i1 : Int32) : zev r i_X4_get 0 [some (.ref x), some (.int i1)] [] h =
    (if zob r h x 4 = true then
    (zcI (zev r i_X4_has 0 [some (.ref x), some (.int i1)] [] h) fun v1 h1 =>
    if v1 = 0 then
      some (some (.int (0 : Int32)), h1)
    else
      (zgR r h1 x 4 0).bind fun v2 =>
      (zaI r h1 v2 i1).bind fun v3 =>
      some (some (.int v3), h1))
    else none) := zblk r [] 14 _ _ _ _ _
set_option maxRecDepth 100000 in
theorem E_X4_set_0 (r : zE) (h : zH) (x : Nat) (i1 : Int32) (i2 : Int32) : zev r i_X4_set 0 [some (.ref x), some (.int i1), some (.int i2)] [] h =
    (if zob r h x 4 = true then
    (zcI (zev r i_X4_has 0 [some (.ref x), some (.int i1)] [] h) fun v1 h1 =>
    if v1 = 0 then
      some (none, h1)
    else
      (zgR r h1 x 4 0).bind fun v2 =>
      (zsI r h1 v2 i1 i2).bind fun h2 =>
      some (none, h2))
    else none) := zblk r [] 13 _ _ _ _ _
set_option maxRecDepth 100000 in
theorem E_X4_renew_0 (r : zE) (h : zH) (x : Nat) (i1 : Int32) (i2 : Int32) : zev r i_X4_renew 0 [some (.ref x), some (.int i1), some (.int i2)] [] h =
    ((zgR r h x 4 0).bind fun v1 =>
    (zaN r h v1).bind fun n2 =>
    (zpF r h x 4 1 (.int (if (0 : Int32) < (if (Int32.ofNat n2) < i1 then (Int32.ofNat n2) else i1) then (if (Int32.ofNat n2) < i1 then (Int32.ofNat n2) else i1) else (0 : Int32)))).bind fun h1 =>
    (zgR r h1 x 4 0).bind fun v3 =>
    zcV (zev r i_J7_fill_53178 0 [some (.ref v3), some (.int i2), none, none] [] h1) fun h2 =>
    some (none, h2)) := zblk r [] 17 _ _ _ _ _
set_option maxRecDepth 100000 in
theorem E_X4_discard_0 (r : zE) (h : zH) (x : Nat) : zev r i_X4_discard 0 [some (.ref x)] [] h =
    ((zpF r h x 4 1 (.int (-1 : Int32))).bind fun h1 =>
    some (none, h1)) := zblk r [] 7 _ _ _ _ _
set_option maxRecDepth 100000 in
theorem E_X4_digestedOnto_0 (r : zE) (h : zH) (x : Nat) (j1 : Int64) : zev r i_X4_digestedOnto 0 [some (.ref x), some (.long j1), none, none, none, none] [] h =
    ((zgI r h x 4 1).bind fun v1 =>
    zev r i_X4_digestedOnto 15 [some (.ref x), some (.long j1), none, some (.long (((31 : Int64) * j1) + v1.toInt64)), none, some (.int (0 : Int32))] [] h) := zblk r [15] 30 _ _ _ _ _
set_option maxRecDepth 100000 in
theorem E_X4_digestedOnto_15 (r : zE) (h : zH) (x : Nat) (l1 : Int64) (l3 : Int64) (l5 : Int32) : zev r i_X4_digestedOnto 15 [some (.ref x), some (.long l1), none, some (.long l3), none, some (.int l5)] [] h =
    ((zgI r h x 4 1).bind fun v1 =>
    if l5 < v1 then
      if zob r h x 4 = true then
      (zcI (zev r i_X4_get 0 [some (.ref x), some (.int l5)] [] h) fun v2 h1 =>
      zev r i_X4_digestedOnto 15 [some (.ref x), some (.long l1), none, some (.long (((31 : Int64) * l3) + v2.toInt64)), none, some (.int (l5 + (1 : Int32)))] [] h1)
      else none
    else
      some (some (.long l3), h)) := zblk r [15] 30 _ _ _ _ _
set_option maxRecDepth 100000 in
theorem E_J6_bitCount_0f7a4_0 (r : zE) (h : zH) (i1 : Int32) : zev r i_J6_bitCount_0f7a4 0 [some (.int i1)] [] h =
    (some (some (.int ((((((((i1 - (((i1.toUInt32 >>> ((1 : Int32).toUInt32 &&& Int32.toUInt32 31)).toInt32) &&& (1431655765 : Int32))) &&& (858993459 : Int32)) + ((((i1 - (((i1.toUInt32 >>> ((1 : Int32).toUInt32 &&& Int32.toUInt32 31)).toInt32) &&& (1431655765 : Int32))).toUInt32 >>> ((2 : Int32).toUInt32 &&& Int32.toUInt32 31)).toInt32) &&& (858993459 : Int32))) + (((((i1 - (((i1.toUInt32 >>> ((1 : Int32).toUInt32 &&& Int32.toUInt32 31)).toInt32) &&& (1431655765 : Int32))) &&& (858993459 : Int32)) + ((((i1 - (((i1.toUInt32 >>> ((1 : Int32).toUInt32 &&& Int32.toUInt32 31)).toInt32) &&& (1431655765 : Int32))).toUInt32 >>> ((2 : Int32).toUInt32 &&& Int32.toUInt32 31)).toInt32) &&& (858993459 : Int32))).toUInt32 >>> ((4 : Int32).toUInt32 &&& Int32.toUInt32 31)).toInt32)) &&& (252645135 : Int32)) + (((((((i1 - (((i1.toUInt32 >>> ((1 : Int32).toUInt32 &&& Int32.toUInt32 31)).toInt32) &&& (1431655765 : Int32))) &&& (858993459 : Int32)) + ((((i1 - (((i1.toUInt32 >>> ((1 : Int32).toUInt32 &&& Int32.toUInt32 31)).toInt32) &&& (1431655765 : Int32))).toUInt32 >>> ((2 : Int32).toUInt32 &&& Int32.toUInt32 31)).toInt32) &&& (858993459 : Int32))) + (((((i1 - (((i1.toUInt32 >>> ((1 : Int32).toUInt32 &&& Int32.toUInt32 31)).toInt32) &&& (1431655765 : Int32))) &&& (858993459 : Int32)) + ((((i1 - (((i1.toUInt32 >>> ((1 : Int32).toUInt32 &&& Int32.toUInt32 31)).toInt32) &&& (1431655765 : Int32))).toUInt32 >>> ((2 : Int32).toUInt32 &&& Int32.toUInt32 31)).toInt32) &&& (858993459 : Int32))).toUInt32 >>> ((4 : Int32).toUInt32 &&& Int32.toUInt32 31)).toInt32)) &&& (252645135 : Int32)).toUInt32 >>> ((8 : Int32).toUInt32 &&& Int32.toUInt32 31)).toInt32)) + ((((((((i1 - (((i1.toUInt32 >>> ((1 : Int32).toUInt32 &&& Int32.toUInt32 31)).toInt32) &&& (1431655765 : Int32))) &&& (858993459 : Int32)) + ((((i1 - (((i1.toUInt32 >>> ((1 : Int32).toUInt32 &&& Int32.toUInt32 31)).toInt32) &&& (1431655765 : Int32))).toUInt32 >>> ((2 : Int32).toUInt32 &&& Int32.toUInt32 31)).toInt32) &&& (858993459 : Int32))) + (((((i1 - (((i1.toUInt32 >>> ((1 : Int32).toUInt32 &&& Int32.toUInt32 31)).toInt32) &&& (1431655765 : Int32))) &&& (858993459 : Int32)) + ((((i1 - (((i1.toUInt32 >>> ((1 : Int32).toUInt32 &&& Int32.toUInt32 31)).toInt32) &&& (1431655765 : Int32))).toUInt32 >>> ((2 : Int32).toUInt32 &&& Int32.toUInt32 31)).toInt32) &&& (858993459 : Int32))).toUInt32 >>> ((4 : Int32).toUInt32 &&& Int32.toUInt32 31)).toInt32)) &&& (252645135 : Int32)) + (((((((i1 - (((i1.toUInt32 >>> ((1 : Int32).toUInt32 &&& Int32.toUInt32 31)).toInt32) &&& (1431655765 : Int32))) &&& (858993459 : Int32)) + ((((i1 - (((i1.toUInt32 >>> ((1 : Int32).toUInt32 &&& Int32.toUInt32 31)).toInt32) &&& (1431655765 : Int32))).toUInt32 >>> ((2 : Int32).toUInt32 &&& Int32.toUInt32 31)).toInt32) &&& (858993459 : Int32))) + (((((i1 - (((i1.toUInt32 >>> ((1 : Int32).toUInt32 &&& Int32.toUInt32 31)).toInt32) &&& (1431655765 : Int32))) &&& (858993459 : Int32)) + ((((i1 - (((i1.toUInt32 >>> ((1 : Int32).toUInt32 &&& Int32.toUInt32 31)).toInt32) &&& (1431655765 : Int32))).toUInt32 >>> ((2 : Int32).toUInt32 &&& Int32.toUInt32 31)).toInt32) &&& (858993459 : Int32))).toUInt32 >>> ((4 : Int32).toUInt32 &&& Int32.toUInt32 31)).toInt32)) &&& (252645135 : Int32)).toUInt32 >>> ((8 : Int32).toUInt32 &&& Int32.toUInt32 31)).toInt32)).toUInt32 >>> ((16 : Int32).toUInt32 &&& Int32.toUInt32 31)).toInt32)) &&& (63 : Int32))), h)) := zblk r [] 45 _ _ _ _ _
set_option maxRecDepth 100000 in
theorem E_J7_fill_53178_0 (r : zE) (h : zH) (a1 : Nat) (i2 : Int32) : zev r i_J7_fill_53178 0 [some (.ref a1), some (.int i2), none, none] [] h =
    ((zaN r h a1).bind fun n1 =>
    zev r i_J7_fill_53178 5 [some (.ref a1), some (.int i2), some (.int (0 : Int32)), some (.int (Int32.ofNat n1))] [] h) := zblk r [5] 18 _ _ _ _ _
set_option maxRecDepth 100000 in
theorem E_J7_fill_53178_5 (r : zE) (h : zH) (l0 : Nat) (l1 : Int32) (l2 : Int32) (l3 : Int32) : zev r i_J7_fill_53178 5 [some (.ref l0), some (.int l1), some (.int l2), some (.int l3)] [] h =
    (if l2 < l3 then
      (zsI r h l0 l2 l1).bind fun h1 =>
      zev r i_J7_fill_53178 5 [some (.ref l0), some (.int l1), some (.int (l2 + (1 : Int32))), some (.int l3)] [] h1
    else
      some (none, h)) := zblk r [5] 18 _ _ _ _ _
end
section
/-! stretches of code as equations (printed by wip/p48/gen20.py) -/
set_option maxRecDepth 100000 in
theorem E_X5_init_0 (r : zE) (h : zH) (x : Nat) : zev r i_X5_init 0 [some (.ref x), none] [] h =
    ((zpF r (h ++ [.inr (.inl (4, 6, fun _ => none))] : zH) x 5 0 (.ref (r.1 + h.length))).bind fun h1 =>
    (zpF r (h1 ++ [.inr (.inl (4, 4, fun _ => none))] : zH) x 5 1 (.ref (r.1 + h1.length))).bind fun h2 =>
    zcV (zev r i_X1_init 0 [some (.ref (r.1 + h2.length))] [] (h2 ++ [.inr (.inr (1, [.int 0, .int 0, .null, .null, .null, .null, .null]))] : zH)) fun h3 =>
    (zpF r h3 x 5 2 (.ref (r.1 + h2.length))).bind fun h4 =>
    (zgR r (h4 ++ [.inr (.inr (0, [.null, .null, .null, .null, .null]))] : zH) x 5 2).bind fun v1 =>
    zcV (zev r i_X0_init 0 [some (.ref (r.1 + h4.length)), some (.ref v1)] [] (h4 ++ [.inr (.inr (0, [.null, .null, .null, .null, .null]))] : zH)) fun h5 =>
    (zpF r h5 x 5 3 (.ref (r.1 + h4.length))).bind fun h6 =>
    (zgR r (h6 ++ [.inr (.inr (0, [.null, .null, .null, .null, .null]))] : zH) x 5 2).bind fun v2 =>
    zcV (zev r i_X0_init 0 [some (.ref (r.1 + h6.length)), some (.ref v2)] [] (h6 ++ [.inr (.inr (0, [.null, .null, .null, .null, .null]))] : zH)) fun h7 =>
    (zpF r h7 x 5 4 (.ref (r.1 + h6.length))).bind fun h8 =>
    zcV (zev r i_X2_init 0 [some (.ref (r.1 + h8.length)), some (.int (0 : Int32))] [] (h8 ++ [.inr (.inr (2, [.null, .int 0]))] : zH)) fun h9 =>
    (zpF r h9 x 5 5 (.ref (r.1 + h8.length))).bind fun h10 =>
    (zpF r (h10 ++ [.inr (.inl (2, 3, fun _ => none))] : zH) x 5 6 (.ref (r.1 + h10.length))).bind fun h11 =>
    (zpF r h11 x 5 7 (.int (0 : Int32))).bind fun h12 =>
    (zpF r h12 x 5 8 (.long (0 : Int64))).bind fun h13 =>
    (zpF r h13 x 5 9 (.long (1 : Int64))).bind fun h14 =>
    (zpF r h14 x 5 10 (.int (0 : Int32))).bind fun h15 =>
    (zpF r (h15 ++ [.inl (6, fun _ => 0)] : zH) x 5 11 (.ref (r.1 + h15.length))).bind fun h16 =>
    zev r i_X5_init 112 [some (.ref x), some (.int (0 : Int32))] [] h16) := zblk r [112, 142, 172] 108 _ _ _ _ _
set_option maxRecDepth 100000 in
theorem E_X5_init_112 (r : zE) (h : zH) (x : Nat) (l1 : Int32) : zev r i_X5_init 112 [some (.ref x), some (.int l1)] [] h =
    ((zgR r h x 5 0).bind fun v1 =>
    (zaN r h v1).bind fun n2 =>
    if l1 < (Int32.ofNat n2) then
      (zgR r h x 5 0).bind fun v3 =>
      zcV (zev r i_X4_init 0 [some (.ref (r.1 + h.length))] [] (h ++ [.inr (.inr (4, [.null, .int 0]))] : zH)) fun h1 =>
      (zsQ r h1 v3 l1 (r.1 + h.length)).bind fun h2 =>
      zev r i_X5_init 112 [some (.ref x), some (.int (l1 + (1 : Int32)))] [] h2
    else
      zev r i_X5_init 142 [some (.ref x), some (.int (0 : Int32))] [] h) := zblk r [112, 142, 172] 108 _ _ _ _ _
set_option maxRecDepth 100000 in
theorem E_X5_init_142 (r : zE) (h : zH) (x : Nat) (l1 : Int32) : zev r i_X5_init 142 [some (.ref x), some (.int l1)] [] h =
    ((zgR r h x 5 1).bind fun v1 =>
    (zaN r h v1).bind fun n2 =>
    if l1 < (Int32.ofNat n2) then
      (zgR r h x 5 1).bind fun v3 =>
      zcV (zev r i_X4_init 0 [some (.ref (r.1 + h.length))] [] (h ++ [.inr (.inr (4, [.null, .int 0]))] : zH)) fun h1 =>
      (zsQ r h1 v3 l1 (r.1 + h.length)).bind fun h2 =>
      zev r i_X5_init 142 [some (.ref x), some (.int (l1 + (1 : Int32)))] [] h2
    else
      zev r i_X5_init 172 [some (.ref x), some (.int (0 : Int32))] [] h) := zblk r [112, 142, 172] 108 _ _ _ _ _
set_option maxRecDepth 100000 in
theorem E_X5_init_172 (r : zE) (h : zH) (x : Nat) (l1 : Int32) : zev r i_X5_init 172 [some (.ref x), some (.int l1)] [] h =
    ((zgR r h x 5 6).bind fun v1 =>
    (zaN r h v1).bind fun n2 =>
    if l1 < (Int32.ofNat n2) then
      (zgR r h x 5 6).bind fun v3 =>
      zcV (zev r i_X2_init 0 [some (.ref (r.1 + h.length)), some (.int (-1 : Int32))] [] (h ++ [.inr (.inr (2, [.null, .int 0]))] : zH)) fun h1 =>
      (zsQ r h1 v3 l1 (r.1 + h.length)).bind fun h2 =>
      zev r i_X5_init 172 [some (.ref x), some (.int (l1 + (1 : Int32)))] [] h2
    else
      some (none, h)) := zblk r [112, 142, 172] 108 _ _ _ _ _
set_option maxRecDepth 100000 in
theorem E_X5_row_0 (r : zE) (h : zH) (x : Nat) (i1 : Int32) (i2 : Int32) : zev r i_X5_row 0 [some (.ref x), some (.int i1), some (.int i2)] [] h =
    (if zob r h x 5 = true then
    (zcQ (zev r i_X5_rowAt 0 [some (.ref x), some (.int i1)] [] h) fun v1 h1 => match v1 with
    | none => if zob r h1 x 5 = true then
      (zcI (zev r i_X5_renewed 0 [some (.ref x), some (.null), some (.int i2), some (.int (40 : Int32)), some (.int (0 : Int32))] [] h1) fun v3 h2 =>
      some (some (.int v3), h2))
      else none
    | some a2 => if zob r h1 x 5 = true then
      (zcI (zev r i_X5_renewed 0 [some (.ref x), some (.ref a2), some (.int i2), some (.int (40 : Int32)), some (.int (0 : Int32))] [] h1) fun v4 h3 =>
      some (some (.int v4), h3))
      else none)
    else none) := zblk r [] 12 _ _ _ _ _
set_option maxRecDepth 100000 in
theorem E_X5_lay_0 (r : zE) (h : zH) (x : Nat) (i1 : Int32) (i2 : Int32) (i3 : Int32) : zev r i_X5_lay 0 [some (.ref x), some (.int i1), some (.int i2), some (.int i3), none] [] h =
    (if zob r h x 5 = true then
    (zcQ (zev r i_X5_rowAt 0 [some (.ref x), some (.int i1)] [] h) fun v1 h1 => match v1 with
    | none => some (some (.int (-1 : Int32)), h1)
    | some a2 => if zob r h1 a2 4 = true then
      (zcI (zev r i_X4_isMissing 0 [some (.ref a2)] [] h1) fun v3 h2 =>
      if v3 = 0 then
        if zob r h2 a2 4 = true then
        (zcI (zev r i_X4_has 0 [some (.ref a2), some (.int i2)] [] h2) fun v4 h3 =>
        if v4 = 0 then
          if zob r h3 x 5 = true then
          (zcI (zev r i_X5_found 0 [some (.ref x), some (.int (2 : Int32))] [] h3) fun v5 h4 =>
          some (some (.int v5), h4))
          else none
        else
          if zob r h3 a2 4 = true then
          (zcI (zev r i_X4_get 0 [some (.ref a2), some (.int i2)] [] h3) fun v6 h5 =>
          if zob r h5 x 5 = true then
          (zcV (zev r i_X5_tell 0 [some (.ref x), some (.int v6)] [] h5) fun h6 =>
          if zob r h6 a2 4 = true then
          (zcV (zev r i_X4_set 0 [some (.ref a2), some (.int i2), some (.int i3)] [] h6) fun h7 =>
          some (some (.int (1 : Int32)), h7))
          else none)
          else none)
          else none)
        else none
      else
        if zob r h2 x 5 = true then
        (zcI (zev r i_X5_found 0 [some (.ref x), some (.int (1 : Int32))] [] h2) fun v7 h8 =>
        some (some (.int v7), h8))
        else none)
      else none)
    else none) := zblk r [] 37 _ _ _ _ _
set_option maxRecDepth 100000 in
theorem E_X5_at_0 (r : zE) (h : zH) (x : Nat) (i1 : Int32) (i2 : Int32) : zev r i_X5_at 0 [some (.ref x), some (.int i1), some (.int i2), none] [] h =
    (if zob r h x 5 = true then
    (zcQ (zev r i_X5_rowAt 0 [some (.ref x), some (.int i1)] [] h) fun v1 h1 => match v1 with
    | none => some (some (.int (-1 : Int32)), h1)
    | some a2 => if zob r h1 a2 4 = true then
      (zcI (zev r i_X4_isMissing 0 [some (.ref a2)] [] h1) fun v3 h2 =>
      if v3 = 0 then
        if zob r h2 a2 4 = true then
        (zcI (zev r i_X4_has 0 [some (.ref a2), some (.int i2)] [] h2) fun v4 h3 =>
        if v4 = 0 then
          if zob r h3 x 5 = true then
          (zcI (zev r i_X5_found 0 [some (.ref x), some (.int (2 : Int32))] [] h3) fun v5 h4 =>
          some (some (.int v5), h4))
          else none
        else
          if zob r h3 a2 4 = true then
          (zcI (zev r i_X4_get 0 [some (.ref a2), some (.int i2)] [] h3) fun v6 h5 =>
          if zob r h5 x 5 = true then
          (zcV (zev r i_X5_tell 0 [some (.ref x), some (.int v6)] [] h5) fun h6 =>
          some (some (.int (1 : Int32)), h6))
          else none)
          else none)
        else none
      else
        if zob r h2 x 5 = true then
        (zcI (zev r i_X5_found 0 [some (.ref x), some (.int (1 : Int32))] [] h2) fun v7 h7 =>
        some (some (.int v7), h7))
        else none)
      else none)
    else none) := zblk r [] 33 _ _ _ _ _
set_option maxRecDepth 100000 in
theorem E_X5_tear_0 (r : zE) (h : zH) (x : Nat) (i1 : Int32) : zev r i_X5_tear 0 [some (.ref x), some (.int i1), none] [] h =
    (if zob r h x 5 = true then
    (zcQ (zev r i_X5_rowAt 0 [some (.ref x), some (.int i1)] [] h) fun v1 h1 => match v1 with
    | none => some (some (.int (-1 : Int32)), h1)
    | some a2 => if zob r h1 a2 4 = true then
      (zcI (zev r i_X4_isMissing 0 [some (.ref a2)] [] h1) fun v3 h2 =>
      if v3 = 0 then
        if zob r h2 a2 4 = true then
        (zcV (zev r i_X4_discard 0 [some (.ref a2)] [] h2) fun h3 =>
        some (some (.int (1 : Int32)), h3))
        else none
      else
        if zob r h2 x 5 = true then
        (zcI (zev r i_X5_found 0 [some (.ref x), some (.int (1 : Int32))] [] h2) fun v4 h4 =>
        some (some (.int v4), h4))
        else none)
      else none)
    else none) := zblk r [] 22 _ _ _ _ _
set_option maxRecDepth 100000 in
theorem E_X5_text_0 (r : zE) (h : zH) (x : Nat) (i1 : Int32) (i2 : Int32) : zev r i_X5_text 0 [some (.ref x), some (.int i1), some (.int i2)] [] h =
    (if zob r h x 5 = true then
    (zcQ (zev r i_X5_textAt 0 [some (.ref x), some (.int i1)] [] h) fun v1 h1 => match v1 with
    | none => if zob r h1 x 5 = true then
      (zcI (zev r i_X5_renewed 0 [some (.ref x), some (.null), some (.int i2), some (.int (60 : Int32)), some (.int (32 : Int32))] [] h1) fun v3 h2 =>
      some (some (.int v3), h2))
      else none
    | some a2 => if zob r h1 x 5 = true then
      (zcI (zev r i_X5_renewed 0 [some (.ref x), some (.ref a2), some (.int i2), some (.int (60 : Int32)), some (.int (32 : Int32))] [] h1) fun v4 h3 =>
      some (some (.int v4), h3))
      else none)
    else none) := zblk r [] 12 _ _ _ _ _
set_option maxRecDepth 100000 in
theorem E_X5_put_0 (r : zE) (h : zH) (x : Nat) (i1 : Int32) (i2 : Int32) (i3 : Int32) : zev r i_X5_put 0 [some (.ref x), some (.int i1), some (.int i2), some (.int i3), none, none] [] h =
    (if zob r h x 5 = true then
    (zcQ (zev r i_X5_textAt 0 [some (.ref x), some (.int i1)] [] h) fun v1 h1 => match v1 with
    | none => some (some (.int (-1 : Int32)), h1)
    | some a2 => if zob r h1 a2 4 = true then
      (zcI (zev r i_X4_isMissing 0 [some (.ref a2)] [] h1) fun v3 h2 =>
      if v3 = 0 then
        if zob r h2 a2 4 = true then
        (zcI (zev r i_X4_has 0 [some (.ref a2), some (.int i2)] [] h2) fun v4 h3 =>
        if v4 = 0 then
          if zob r h3 x 5 = true then
          (zcI (zev r i_X5_found 0 [some (.ref x), some (.int (2 : Int32))] [] h3) fun v5 h4 =>
          some (some (.int v5), h4))
          else none
        else
          if zob r h3 a2 4 = true then
          (zcI (zev r i_X4_get 0 [some (.ref a2), some (.int i2)] [] h3) fun v6 h5 =>
          if zob r h5 a2 4 = true then
          (zcV (zev r i_X4_set 0 [some (.ref a2), some (.int i2), some (.int i3.toInt8.toInt32)] [] h5) fun h6 =>
          some (some (.int (v6 + (1000 : Int32))), h6))
          else none)
          else none)
        else none
      else
        if zob r h2 x 5 = true then
        (zcI (zev r i_X5_found 0 [some (.ref x), some (.int (1 : Int32))] [] h2) fun v7 h7 =>
        some (some (.int v7), h7))
        else none)
      else none)
    else none) := zblk r [] 39 _ _ _ _ _
set_option maxRecDepth 100000 in
theorem E_X5_fault_0 (r : zE) (h : zH) (x : Nat) (i1 : Int32) : zev r i_X5_fault 0 [some (.ref x), some (.int i1), none] [] h =
    (if zob r h x 5 = true then
    (zcQ (zev r i_X5_textAt 0 [some (.ref x), some (.int i1)] [] h) fun v1 h1 => match v1 with
    | none => some (some (.int (-1 : Int32)), h1)
    | some a2 => if zob r h1 a2 4 = true then
      (zcI (zev r i_X4_isMissing 0 [some (.ref a2)] [] h1) fun v3 h2 =>
      if v3 = 0 then
        zcV (zev r i_X1_init 0 [some (.ref (r.1 + (h2 ++ [.inr (.inr (3, [.null, .null, .int 0]))] : zH).length))] [] (h2 ++ [.inr (.inr (3, [.null, .null, .int 0]))] ++ [.inr (.inr (1, [.int 0, .int 0, .null, .null, .null, .null, .null]))] : zH)) fun h3 =>
        zcV (zev r i_X3_init 0 [some (.ref (r.1 + h2.length)), some (.ref a2), some (.ref (r.1 + (h2 ++ [.inr (.inr (3, [.null, .null, .int 0]))] : zH).length))] [] h3) fun h4 =>
        if zob r h4 (r.1 + h2.length) 3 = true then
        (zcI (zev r i_X3_read 0 [some (.ref (r.1 + h2.length)), none, none] [] h4) fun v4 h5 =>
        some (some (.int v4), h5))
        else none
      else
        if zob r h2 x 5 = true then
        (zcI (zev r i_X5_found 0 [some (.ref x), some (.int (1 : Int32))] [] h2) fun v5 h6 =>
        some (some (.int v5), h6))
        else none)
      else none)
    else none) := zblk r [] 27 _ _ _ _ _
set_option maxRecDepth 100000 in
theorem E_X5_deck_0 (r : zE) (h : zH) (x : Nat) (i1 : Int32) : zev r i_X5_deck 0 [some (.ref x), some (.int i1), none, none, none] [] h =
    (if zob r h x 5 = true then
    (zcQ (zev r i_X5_textAt 0 [some (.ref x), some (.int i1)] [] h) fun v1 h1 => match v1 with
    | none => some (some (.int (-1 : Int32)), h1)
    | some a2 => if zob r h1 a2 4 = true then
      (zcI (zev r i_X4_isMissing 0 [some (.ref a2)] [] h1) fun v3 h2 =>
      if v3 = 0 then
        zcV (zev r i_X1_init 0 [some (.ref (r.1 + h2.length))] [] (h2 ++ [.inr (.inr (1, [.int 0, .int 0, .null, .null, .null, .null, .null]))] : zH)) fun h3 =>
        zcV (zev r i_X3_init 0 [some (.ref (r.1 + h3.length)), some (.ref a2), some (.ref (r.1 + h2.length))] [] (h3 ++ [.inr (.inr (3, [.null, .null, .int 0]))] : zH)) fun h4 =>
        if zob r h4 (r.1 + h3.length) 3 = true then
        (zcI (zev r i_X3_read 0 [some (.ref (r.1 + h3.length)), none, none] [] h4) fun v4 h5 =>
        if v4 = (-9 : Int32) then
          (zpF r h5 x 5 2 (.ref (r.1 + h2.length))).bind fun h6 =>
          (zgR r h6 x 5 3).bind fun v5 =>
          if zob r h6 v5 0 = true then
          (zcV (zev r i_X0_begin 0 [some (.ref v5), some (.ref (r.1 + h2.length))] [] h6) fun h7 =>
          (zgR r h7 x 5 5).bind fun v6 =>
          (zgR r h7 x 5 3).bind fun v7 =>
          if zob r h7 v6 2 = true then
          (zcV (zev r i_X2_begin 0 [some (.ref v6), some (.ref v7)] [] h7) fun h8 =>
          zev r i_X5_deck 80 [some (.ref x), some (.int i1), some (.ref a2), some (.ref (r.1 + h2.length)), some (.int (0 : Int32))] [] h8)
          else none)
          else none
        else
          some (some (.int (-4 : Int32)), h5))
        else none
      else
        if zob r h2 x 5 = true then
        (zcI (zev r i_X5_found 0 [some (.ref x), some (.int (1 : Int32))] [] h2) fun v8 h9 =>
        some (some (.int v8), h9))
        else none)
      else none)
    else none) := zblk r [80] 61 _ _ _ _ _
set_option maxRecDepth 100000 in
theorem E_X5_deck_80 (r : zE) (h : zH) (x : Nat) (l1 : Int32) (l2 : Nat) (l3 : Nat) (l4 : Int32) : zev r i_X5_deck 80 [some (.ref x), some (.int l1), some (.ref l2), some (.ref l3), some (.int l4)] [] h =
    ((zgR r h x 5 6).bind fun v1 =>
    (zaN r h v1).bind fun n2 =>
    if l4 < (Int32.ofNat n2) then
      (zgR r h x 5 6).bind fun v3 =>
      (zaQ r h v3 l4).bind fun v4 => match v4 with
      | none => none
      | some a5 => if zob r h a5 2 = true then
        (zcV (zev r i_X2_discard 0 [some (.ref a5)] [] h) fun h1 =>
        zev r i_X5_deck 80 [some (.ref x), some (.int l1), some (.ref l2), some (.ref l3), some (.int (l4 + (1 : Int32)))] [] h1)
        else none
    else
      (zgI r h l3 1 1).bind fun v6 =>
      some (some (.int v6), h)) := zblk r [80] 61 _ _ _ _ _
set_option maxRecDepth 100000 in
theorem E_X5_man_0 (r : zE) (h : zH) (x : Nat) (i1 : Int32) (i2 : Int32) : zev r i_X5_man 0 [some (.ref x), some (.int i1), some (.int i2)] [] h =
    ((zgR r h x 5 2).bind fun v1 =>
    if zob r h v1 1 = true then
    (zcI (zev r i_X1_hasMan 0 [some (.ref v1), some (.int i1)] [] h) fun v2 h1 =>
    if v2 = 0 then
      some (some (.int (-1 : Int32)), h1)
    else
      if i2 < 0 then
        some (some (.int (-1 : Int32)), h1)
      else
        if i2 < (6 : Int32) then
          (zgR r h1 x 5 3).bind fun v3 =>
          if zob r h1 v3 0 = true then
          (zcI (zev r i_X0_manDetail 0 [some (.ref v3), some (.int i1), some (.int i2)] [] h1) fun v4 h2 =>
          if zob r h2 x 5 = true then
          (zcV (zev r i_X5_tell 0 [some (.ref x), some (.int v4)] [] h2) fun h3 =>
          some (some (.int (1 : Int32)), h3))
          else none)
          else none
        else
          some (some (.int (-1 : Int32)), h1))
    else none) := zblk r [] 24 _ _ _ _ _
set_option maxRecDepth 100000 in
theorem E_X5_hook_0 (r : zE) (h : zH) (x : Nat) (i1 : Int32) (i2 : Int32) : zev r i_X5_hook 0 [some (.ref x), some (.int i1), some (.int i2)] [] h =
    ((zgR r h x 5 2).bind fun v1 =>
    if zob r h v1 1 = true then
    (zcI (zev r i_X1_hasHook 0 [some (.ref v1), some (.int i1)] [] h) fun v2 h1 =>
    if v2 = 0 then
      some (some (.int (-1 : Int32)), h1)
    else
      if i2 < 0 then
        some (some (.int (-1 : Int32)), h1)
      else
        if i2 < (2 : Int32) then
          (zgR r h1 x 5 3).bind fun v3 =>
          if zob r h1 v3 0 = true then
          (zcI (zev r i_X0_hookDetail 0 [some (.ref v3), some (.int i1), some (.int i2)] [] h1) fun v4 h2 =>
          if zob r h2 x 5 = true then
          (zcV (zev r i_X5_tell 0 [some (.ref x), some (.int v4)] [] h2) fun h3 =>
          some (some (.int (1 : Int32)), h3))
          else none)
          else none
        else
          some (some (.int (-1 : Int32)), h1))
    else none) := zblk r [] 24 _ _ _ _ _
set_option maxRecDepth 100000 in
theorem E_X5_hang_0 (r : zE) (h : zH) (x : Nat) (i1 : Int32) (i2 : Int32) : zev r i_X5_hang 0 [some (.ref x), some (.int i1), some (.int i2)] [] h =
    ((zgR r h x 5 2).bind fun v1 =>
    if zob r h v1 1 = true then
    (zcI (zev r i_X1_hasMan 0 [some (.ref v1), some (.int i1)] [] h) fun v2 h1 =>
    if v2 = 0 then
      some (some (.int (-1 : Int32)), h1)
    else
      (zgR r h1 x 5 2).bind fun v3 =>
      if zob r h1 v3 1 = true then
      (zcI (zev r i_X1_hasHook 0 [some (.ref v3), some (.int i2)] [] h1) fun v4 h2 =>
      if v4 = 0 then
        some (some (.int (-1 : Int32)), h2)
      else
        (zgR r h2 x 5 3).bind fun v5 =>
        if zob r h2 v5 0 = true then
        (zcI (zev r i_X0_isFree 0 [some (.ref v5), some (.int i2)] [] h2) fun v6 h3 =>
        if v6 = 0 then
          some (some (.int (-4 : Int32)), h3)
        else
          (zgR r h3 x 5 5).bind fun v7 =>
          if zob r h3 v7 2 = true then
          (zcI (zev r i_X2_hasRoomFor 0 [some (.ref v7), some (.int (1 : Int32))] [] h3) fun v8 h4 =>
          if v8 = 0 then
            some (some (.int (-2 : Int32)), h4)
          else
            (zgR r h4 x 5 3).bind fun v9 =>
            if zob r h4 v9 0 = true then
            (zcV (zev r i_X0_move 0 [some (.ref v9), some (.int i1), some (.int i2)] [] h4) fun h5 =>
            (zgR r h5 x 5 5).bind fun v10 =>
            (zgR r h5 x 5 3).bind fun v11 =>
            if zob r h5 v10 2 = true then
            (zcV (zev r i_X2_add 0 [some (.ref v10), some (.ref v11)] [] h5) fun h6 =>
            some (some (.int i2), h6))
            else none)
            else none)
          else none)
        else none)
      else none)
    else none) := zblk r [] 41 _ _ _ _ _
set_option maxRecDepth 100000 in
theorem E_X5_down_0 (r : zE) (h : zH) (x : Nat) (i1 : Int32) : zev r i_X5_down 0 [some (.ref x), some (.int i1), none] [] h =
    ((zgR r h x 5 2).bind fun v1 =>
    if zob r h v1 1 = true then
    (zcI (zev r i_X1_hasMan 0 [some (.ref v1), some (.int i1)] [] h) fun v2 h1 =>
    if v2 = 0 then
      some (some (.int (-1 : Int32)), h1)
    else
      (zgR r h1 x 5 3).bind fun v3 =>
      if zob r h1 v3 0 = true then
      (zcI (zev r i_X0_hangs 0 [some (.ref v3), some (.int i1)] [] h1) fun v4 h2 =>
      if v4 = 0 then
        some (some (.int (-4 : Int32)), h2)
      else
        (zgR r h2 x 5 5).bind fun v5 =>
        if zob r h2 v5 2 = true then
        (zcI (zev r i_X2_hasRoomFor 0 [some (.ref v5), some (.int (1 : Int32))] [] h2) fun v6 h3 =>
        if v6 = 0 then
          some (some (.int (-2 : Int32)), h3)
        else
          (zgR r h3 x 5 3).bind fun v7 =>
          (zgR r h3 v7 0 1).bind fun v8 =>
          (zaI r h3 v8 i1).bind fun v9 =>
          (zgR r h3 x 5 3).bind fun v10 =>
          if zob r h3 v10 0 = true then
          (zcV (zev r i_X0_move 0 [some (.ref v10), some (.int i1), some (.int (-9 : Int32))] [] h3) fun h4 =>
          (zgR r h4 x 5 5).bind fun v11 =>
          (zgR r h4 x 5 3).bind fun v12 =>
          if zob r h4 v11 2 = true then
          (zcV (zev r i_X2_add 0 [some (.ref v11), some (.ref v12)] [] h4) fun h5 =>
          some (some (.int v9), h5))
          else none)
          else none)
        else none)
      else none)
    else none) := zblk r [] 42 _ _ _ _ _
set_option maxRecDepth 100000 in
theorem E_X5_change_0 (r : zE) (h : zH) (x : Nat) (i1 : Int32) (i2 : Int32) : zev r i_X5_change 0 [some (.ref x), some (.int i1), some (.int i2)] [] h =
    ((zgR r h x 5 2).bind fun v1 =>
    if zob r h v1 1 = true then
    (zcI (zev r i_X1_hasMan 0 [some (.ref v1), some (.int i1)] [] h) fun v2 h1 =>
    if v2 = 0 then
      some (some (.int (-1 : Int32)), h1)
    else
      (zgR r h1 x 5 2).bind fun v3 =>
      if zob r h1 v3 1 = true then
      (zcI (zev r i_X1_hasMan 0 [some (.ref v3), some (.int i2)] [] h1) fun v4 h2 =>
      if v4 = 0 then
        some (some (.int (-1 : Int32)), h2)
      else
        if i1 = i2 then
          some (some (.int (-1 : Int32)), h2)
        else
          (zgR r h2 x 5 3).bind fun v5 =>
          if zob r h2 v5 0 = true then
          (zcI (zev r i_X0_hangs 0 [some (.ref v5), some (.int i1)] [] h2) fun v6 h3 =>
          if v6 = 0 then
            (zgR r h3 x 5 3).bind fun v7 =>
            if zob r h3 v7 0 = true then
            (zcI (zev r i_X0_hangs 0 [some (.ref v7), some (.int i2)] [] h3) fun v8 h4 =>
            if v8 = 0 then
              some (some (.int (-4 : Int32)), h4)
            else
              zev r i_X5_change 54 [some (.ref x), some (.int i1), some (.int i2)] [] h4)
            else none
          else
            zev r i_X5_change 54 [some (.ref x), some (.int i1), some (.int i2)] [] h3)
          else none)
      else none)
    else none) := zblk r [54] 49 _ _ _ _ _
set_option maxRecDepth 100000 in
theorem E_X5_change_54 (r : zE) (h : zH) (x : Nat) (l1 : Int32) (l2 : Int32) : zev r i_X5_change 54 [some (.ref x), some (.int l1), some (.int l2)] [] h =
    ((zgR r h x 5 5).bind fun v1 =>
    if zob r h v1 2 = true then
    (zcI (zev r i_X2_hasRoomFor 0 [some (.ref v1), some (.int (1 : Int32))] [] h) fun v2 h1 =>
    if v2 = 0 then
      some (some (.int (-2 : Int32)), h1)
    else
      (zgR r h1 x 5 3).bind fun v3 =>
      if zob r h1 v3 0 = true then
      (zcV (zev r i_X0_swap 0 [some (.ref v3), some (.int l1), some (.int l2), none, none] [] h1) fun h2 =>
      (zgR r h2 x 5 5).bind fun v4 =>
      (zgR r h2 x 5 3).bind fun v5 =>
      if zob r h2 v4 2 = true then
      (zcV (zev r i_X2_add 0 [some (.ref v4), some (.ref v5)] [] h2) fun h3 =>
      some (some (.int (1 : Int32)), h3))
      else none)
      else none)
    else none) := zblk r [54] 49 _ _ _ _ _
set_option maxRecDepth 100000 in
theorem E_X5_line_0 (r : zE) (h : zH) (x : Nat) (i1 : Int32) (i2 : Int32) : zev r i_X5_line 0 [some (.ref x), some (.int i1), some (.int i2), none] [] h =
    ((zgR r h x 5 2).bind fun v1 =>
    if zob r h v1 1 = true then
    (zcI (zev r i_X1_hasMan 0 [some (.ref v1), some (.int i1)] [] h) fun v2 h1 =>
    if v2 = 0 then
      some (some (.int (-1 : Int32)), h1)
    else
      if i2 < (1 : Int32) then
        some (some (.int (-1 : Int32)), h1)
      else
        if (9 : Int32) < i2 then
          some (some (.int (-1 : Int32)), h1)
        else
          (zgR r h1 x 5 3).bind fun v3 =>
          (zgR r h1 v3 0 3).bind fun v4 =>
          (zaI r h1 v4 i1).bind fun v5 =>
          if v5 = i2 then
            some (some (.int (-4 : Int32)), h1)
          else
            (zgR r h1 x 5 5).bind fun v6 =>
            if zob r h1 v6 2 = true then
            (zcI (zev r i_X2_hasRoomFor 0 [some (.ref v6), some (.int (1 : Int32))] [] h1) fun v7 h2 =>
            if v7 = 0 then
              some (some (.int (-2 : Int32)), h2)
            else
              (zgR r h2 x 5 3).bind fun v8 =>
              (zgR r h2 v8 0 3).bind fun v9 =>
              (zsI r h2 v9 i1 i2).bind fun h3 =>
              (zgR r h3 x 5 5).bind fun v10 =>
              (zgR r h3 x 5 3).bind fun v11 =>
              if zob r h3 v10 2 = true then
              (zcV (zev r i_X2_add 0 [some (.ref v10), some (.ref v11)] [] h3) fun h4 =>
              some (some (.int v5), h4))
              else none)
            else none)
    else none) := zblk r [] 47 _ _ _ _ _
set_option maxRecDepth 100000 in
theorem E_X5_night_0 (r : zE) (h : zH) (x : Nat) (i1 : Int32) : zev r i_X5_night 0 [some (.ref x), some (.int i1)] [] h =
    (zcI (zev r i_X5_isWhen 0 [some (.int i1)] [] h) fun v1 h1 =>
    if v1 = 0 then
      some (some (.int (-1 : Int32)), h1)
    else
      (zgR r h1 x 5 2).bind fun v2 =>
      (zgI r h1 v2 1 1).bind fun v3 =>
      if v3 = 0 then
        some (some (.int (-4 : Int32)), h1)
      else
        (zgR r h1 x 5 5).bind fun v4 =>
        if zob r h1 v4 2 = true then
        (zcI (zev r i_X2_hasRoomFor 0 [some (.ref v4), some (.int (1 : Int32))] [] h1) fun v5 h2 =>
        if v5 = 0 then
          some (some (.int (-2 : Int32)), h2)
        else
          if zob r h2 x 5 = true then
          (zcI (zev r i_X5_sleptThrough 0 [some (.ref x), some (.int i1), none] [] h2) fun v6 h3 =>
          some (some (.int v6), h3))
          else none)
        else none) := zblk r [] 25 _ _ _ _ _
set_option maxRecDepth 100000 in
theorem E_X5_undo_0 (r : zE) (h : zH) (x : Nat) (i1 : Int32) : zev r i_X5_undo 0 [some (.ref x), some (.int i1), none] [] h =
    (if i1 < 0 then
      some (some (.int (-1 : Int32)), h)
    else
      (zgR r h x 5 5).bind fun v1 =>
      (zgI r h v1 2 1).bind fun v2 =>
      if v2 < i1 then
        some (some (.int (-1 : Int32)), h)
      else
        (zgR r h x 5 5).bind fun v3 =>
        (zgI r h v3 2 1).bind fun v4 =>
        (zgR r h x 5 5).bind fun v5 =>
        (zgR r h x 5 3).bind fun v6 =>
        if zob r h v5 2 = true then
        (zcV (zev r i_X2_goBackTo 0 [some (.ref v5), some (.int i1), some (.ref v6)] [] h) fun h1 =>
        some (some (.int (v4 - i1)), h1))
        else none) := zblk r [] 26 _ _ _ _ _
set_option maxRecDepth 100000 in
theorem E_X5_keep_0 (r : zE) (h : zH) (x : Nat) (i1 : Int32) : zev r i_X5_keep 0 [some (.ref x), some (.int i1)] [] h =
    (if zob r h x 5 = true then
    (zcI (zev r i_X5_isKeptPlace 0 [some (.ref x), some (.int i1)] [] h) fun v1 h1 =>
    if v1 = 0 then
      some (some (.int (-1 : Int32)), h1)
    else
      (zgR r h1 x 5 2).bind fun v2 =>
      (zgI r h1 v2 1 1).bind fun v3 =>
      if v3 = 0 then
        some (some (.int (-4 : Int32)), h1)
      else
        (zgR r h1 x 5 6).bind fun v4 =>
        (zaQ r h1 v4 i1).bind fun v5 => match v5 with
        | none => (zgR r h1 x 5 5).bind fun v7 =>
          none
        | some a6 => (zgR r h1 x 5 5).bind fun v8 =>
          if zob r h1 a6 2 = true then
          (zcV (zev r i_X2_copyFrom 0 [some (.ref a6), some (.ref v8)] [] h1) fun h2 =>
          (zgR r h2 x 5 5).bind fun v9 =>
          (zgI r h2 v9 2 1).bind fun v10 =>
          some (some (.int v10), h2))
          else none)
    else none) := zblk r [] 26 _ _ _ _ _
set_option maxRecDepth 100000 in
theorem E_X5_on_0 (r : zE) (h : zH) (x : Nat) (i1 : Int32) : zev r i_X5_on 0 [some (.ref x), some (.int i1)] [] h =
    (if zob r h x 5 = true then
    (zcI (zev r i_X5_isKeptPlace 0 [some (.ref x), some (.int i1)] [] h) fun v1 h1 =>
    if v1 = 0 then
      some (some (.int (-1 : Int32)), h1)
    else
      (zgR r h1 x 5 6).bind fun v2 =>
      (zaQ r h1 v2 i1).bind fun v3 => match v3 with
      | none => none
      | some a4 => if zob r h1 a4 2 = true then
        (zcI (zev r i_X2_isMissing 0 [some (.ref a4)] [] h1) fun v5 h2 =>
        if v5 = 0 then
          (zgR r h2 x 5 5).bind fun v6 =>
          (zgR r h2 x 5 6).bind fun v7 =>
          (zaQ r h2 v7 i1).bind fun v8 => match v8 with
          | none => if zob r h2 v6 2 = true then
            (zcV (zev r i_X2_copyFrom 0 [some (.ref v6), some (.null)] [] h2) fun h3 =>
            (zgR r h3 x 5 5).bind fun v10 =>
            (zgR r h3 x 5 5).bind fun v11 =>
            (zgI r h3 v11 2 1).bind fun v12 =>
            (zgR r h3 x 5 3).bind fun v13 =>
            if zob r h3 v10 2 = true then
            (zcV (zev r i_X2_goBackTo 0 [some (.ref v10), some (.int v12), some (.ref v13)] [] h3) fun h4 =>
            (zgR r h4 x 5 5).bind fun v14 =>
            (zgI r h4 v14 2 1).bind fun v15 =>
            some (some (.int v15), h4))
            else none)
            else none
          | some a9 => if zob r h2 v6 2 = true then
            (zcV (zev r i_X2_copyFrom 0 [some (.ref v6), some (.ref a9)] [] h2) fun h5 =>
            (zgR r h5 x 5 5).bind fun v16 =>
            (zgR r h5 x 5 5).bind fun v17 =>
            (zgI r h5 v17 2 1).bind fun v18 =>
            (zgR r h5 x 5 3).bind fun v19 =>
            if zob r h5 v16 2 = true then
            (zcV (zev r i_X2_goBackTo 0 [some (.ref v16), some (.int v18), some (.ref v19)] [] h5) fun h6 =>
            (zgR r h6 x 5 5).bind fun v20 =>
            (zgI r h6 v20 2 1).bind fun v21 =>
            some (some (.int v21), h6))
            else none)
            else none
        else
          if zob r h2 x 5 = true then
          (zcI (zev r i_X5_found 0 [some (.ref x), some (.int (1 : Int32))] [] h2) fun v22 h7 =>
          some (some (.int v22), h7))
          else none)
        else none)
    else none) := zblk r [] 38 _ _ _ _ _
set_option maxRecDepth 100000 in
theorem E_X5_neighbours_0 (r : zE) (h : zH) (x : Nat) (i1 : Int32) (i2 : Int32) : zev r i_X5_neighbours 0 [some (.ref x), some (.int i1), some (.int i2)] [] h =
    ((zgR r h x 5 2).bind fun v1 =>
    if zob r h v1 1 = true then
    (zcI (zev r i_X1_hasMan 0 [some (.ref v1), some (.int i1)] [] h) fun v2 h1 =>
    if v2 = 0 then
      some (some (.int (-1 : Int32)), h1)
    else
      zcI (zev r i_X5_isWhen 0 [some (.int i2)] [] h1) fun v3 h2 =>
      if v3 = 0 then
        some (some (.int (-1 : Int32)), h2)
      else
        (zgR r h2 x 5 3).bind fun v4 =>
        if zob r h2 v4 0 = true then
        (zcI (zev r i_X0_neighbourBits 0 [some (.ref v4), some (.int i1), some (.int i2)] [] h2) fun v5 h3 =>
        some (some (.int v5), h3))
        else none)
    else none) := zblk r [] 19 _ _ _ _ _
set_option maxRecDepth 100000 in
theorem E_X5_woken_0 (r : zE) (h : zH) (x : Nat) (i1 : Int32) (i2 : Int32) : zev r i_X5_woken 0 [some (.ref x), some (.int i1), some (.int i2)] [] h =
    ((zgR r h x 5 2).bind fun v1 =>
    if zob r h v1 1 = true then
    (zcI (zev r i_X1_hasMan 0 [some (.ref v1), some (.int i1)] [] h) fun v2 h1 =>
    if v2 = 0 then
      some (some (.int (-1 : Int32)), h1)
    else
      zcI (zev r i_X5_isWhen 0 [some (.int i2)] [] h1) fun v3 h2 =>
      if v3 = 0 then
        some (some (.int (-1 : Int32)), h2)
      else
        (zgR r h2 x 5 3).bind fun v4 =>
        if zob r h2 v4 0 = true then
        (zcI (zev r i_X0_wakings 0 [some (.ref v4), some (.int i1), some (.int i2), none, none] [] h2) fun v5 h3 =>
        some (some (.int v5), h3))
        else none)
    else none) := zblk r [] 19 _ _ _ _ _
set_option maxRecDepth 100000 in
theorem E_X5_all_0 (r : zE) (h : zH) (x : Nat) (i1 : Int32) : zev r i_X5_all 0 [some (.ref x), some (.int i1)] [] h =
    (zcI (zev r i_X5_isWhen 0 [some (.int i1)] [] h) fun v1 h1 =>
    if v1 = 0 then
      some (some (.int (-1 : Int32)), h1)
    else
      (zgR r h1 x 5 3).bind fun v2 =>
      if zob r h1 v2 0 = true then
      (zcI (zev r i_X0_howManyIn 0 [some (.ref v2), some (.int i1), none, none] [] h1) fun v3 h2 =>
      if zob r h2 x 5 = true then
      (zcV (zev r i_X5_tell 0 [some (.ref x), some (.int v3)] [] h2) fun h3 =>
      (zgR r h3 x 5 3).bind fun v4 =>
      if zob r h3 v4 0 = true then
      (zcI (zev r i_X0_allWakings 0 [some (.ref v4), some (.int i1), none, none] [] h3) fun v5 h4 =>
      some (some (.int v5), h4))
      else none)
      else none)
      else none) := zblk r [] 19 _ _ _ _ _
set_option maxRecDepth 100000 in
theorem E_X5_worst_0 (r : zE) (h : zH) (x : Nat) (i1 : Int32) : zev r i_X5_worst 0 [some (.ref x), some (.int i1), none, none, none, none] [] h =
    (zcI (zev r i_X5_isWhen 0 [some (.int i1)] [] h) fun v1 h1 =>
    if v1 = 0 then
      some (some (.int (-1 : Int32)), h1)
    else
      zev r i_X5_worst 17 [some (.ref x), some (.int i1), some (.int (-9 : Int32)), some (.int (-1 : Int32)), some (.int (0 : Int32)), none] [] h1) := zblk r [17] 48 _ _ _ _ _
set_option maxRecDepth 100000 in
theorem E_X5_worst_17 (r : zE) (h : zH) (x : Nat) (l1 : Int32) (l2 : Int32) (l3 : Int32) (l4 : Int32) : zev r i_X5_worst 17 [some (.ref x), some (.int l1), some (.int l2), some (.int l3), some (.int l4), none] [] h =
    ((zgR r h x 5 2).bind fun v1 =>
    (zgI r h v1 1 1).bind fun v2 =>
    if l4 < v2 then
      (zgR r h x 5 3).bind fun v3 =>
      if zob r h v3 0 = true then
      (zcI (zev r i_X0_wakings 0 [some (.ref v3), some (.int l4), some (.int l1), none, none] [] h) fun v4 h1 =>
      (zgR r h1 x 5 3).bind fun v5 =>
      if zob r h1 v5 0 = true then
      (zcI (zev r i_X0_isIn 0 [some (.ref v5), some (.int l4), some (.int l1)] [] h1) fun v6 h2 =>
      if v6 = 0 then
        zev r i_X5_worst 17 [some (.ref x), some (.int l1), some (.int l2), some (.int l3), some (.int (l4 + (1 : Int32))), none] [] h2
      else
        if l3 < v4 then
          zev r i_X5_worst 17 [some (.ref x), some (.int l1), some (.int l4), some (.int v4), some (.int (l4 + (1 : Int32))), none] [] h2
        else
          zev r i_X5_worst 17 [some (.ref x), some (.int l1), some (.int l2), some (.int l3), some (.int (l4 + (1 : Int32))), none] [] h2)
      else none)
      else none
    else
      if l2 = (-9 : Int32) then
        some (some (.int l2), h)
      else
        if zob r h x 5 = true then
        (zcV (zev r i_X5_tell 0 [some (.ref x), some (.int l3)] [] h) fun h3 =>
        some (some (.int l2), h3))
        else none) := zblk r [17] 48 _ _ _ _ _
set_option maxRecDepth 100000 in
theorem E_X5_by_0 (r : zE) (h : zH) (x : Nat) (i1 : Int32) (i2 : Int32) : zev r i_X5_by 0 [some (.ref x), some (.int i1), some (.int i2), none, none, none, none, none] [] h =
    ((zgR r h x 5 2).bind fun v1 =>
    if zob r h v1 1 = true then
    (zcI (zev r i_X1_hasMan 0 [some (.ref v1), some (.int i1)] [] h) fun v2 h1 =>
    if v2 = 0 then
      some (some (.int (-1 : Int32)), h1)
    else
      zcI (zev r i_X5_isWhen 0 [some (.int i2)] [] h1) fun v3 h2 =>
      if v3 = 0 then
        some (some (.int (-1 : Int32)), h2)
      else
        (zgR r h2 x 5 3).bind fun v4 =>
        if zob r h2 v4 0 = true then
        (zcI (zev r i_X0_isIn 0 [some (.ref v4), some (.int i1), some (.int i2)] [] h2) fun v5 h3 =>
        if v5 = 0 then
          some (some (.int (-9 : Int32)), h3)
        else
          (zgR r h3 x 5 3).bind fun v6 =>
          if zob r h3 v6 0 = true then
          (zcI (zev r i_X0_neighbourBits 0 [some (.ref v6), some (.int i1), some (.int i2)] [] h3) fun v7 h4 =>
          zev r i_X5_by 55 [some (.ref x), some (.int i1), some (.int i2), some (.int v7), some (.int (-9 : Int32)), some (.int (-1 : Int32)), some (.int (0 : Int32)), none] [] h4)
          else none)
        else none)
    else none) := zblk r [55] 74 _ _ _ _ _
set_option maxRecDepth 100000 in
theorem E_X5_by_55 (r : zE) (h : zH) (x : Nat) (l1 : Int32) (l2 : Int32) (l3 : Int32) (l4 : Int32) (l5 : Int32) (l6 : Int32) : zev r i_X5_by 55 [some (.ref x), some (.int l1), some (.int l2), some (.int l3), some (.int l4), some (.int l5), some (.int l6), none] [] h =
    ((zgR r h x 5 2).bind fun v1 =>
    (zgI r h v1 1 1).bind fun v2 =>
    if l6 < v2 then
      if (l3 &&& ((1 : Int32) <<< (l6 &&& 31))) = 0 then
        zev r i_X5_by 55 [some (.ref x), some (.int l1), some (.int l2), some (.int l3), some (.int l4), some (.int l5), some (.int (l6 + (1 : Int32))), none] [] h
      else
        (zgR r h x 5 3).bind fun v3 =>
        if zob r h v3 0 = true then
        (zcI (zev r i_X0_wakings 0 [some (.ref v3), some (.int l1), some (.int l2), none, none] [] h) fun v4 h1 =>
        if zob r h1 x 5 = true then
        (zcI (zev r i_X5_wakingsWithout 0 [some (.ref x), some (.int l6), some (.int l1), some (.int l2)] [] h1) fun v5 h2 =>
        if l5 < (v4 - v5) then
          zev r i_X5_by 55 [some (.ref x), some (.int l1), some (.int l2), some (.int l3), some (.int l6), some (.int (v4 - v5)), some (.int (l6 + (1 : Int32))), none] [] h2
        else
          zev r i_X5_by 55 [some (.ref x), some (.int l1), some (.int l2), some (.int l3), some (.int l4), some (.int l5), some (.int (l6 + (1 : Int32))), none] [] h2)
        else none)
        else none
    else
      if l4 = (-9 : Int32) then
        some (some (.int l4), h)
      else
        if zob r h x 5 = true then
        (zcV (zev r i_X5_tell 0 [some (.ref x), some (.int l5)] [] h) fun h3 =>
        some (some (.int l4), h3))
        else none) := zblk r [55] 74 _ _ _ _ _
set_option maxRecDepth 100000 in
theorem E_X5_best_0 (r : zE) (h : zH) (x : Nat) (i1 : Int32) (i2 : Int32) : zev r i_X5_best 0 [some (.ref x), some (.int i1), some (.int i2)] [] h =
    (zcI (zev r i_X5_isWhen 0 [some (.int i1)] [] h) fun v1 h1 =>
    if v1 = 0 then
      some (some (.int (-1 : Int32)), h1)
    else
      if zob r h1 x 5 = true then
      (zcQ (zev r i_X5_rowAt 0 [some (.ref x), some (.int i2)] [] h1) fun v2 h2 => match v2 with
      | none => if zob r h2 x 5 = true then
        (zcI (zev r i_X5_leastPlan 0 [some (.ref x), some (.int (0 : Int32)), some (.int i1), some (.null), none, none, none, none] [] h2) fun v4 h3 =>
        some (some (.int v4), h3))
        else none
      | some a3 => if zob r h2 x 5 = true then
        (zcI (zev r i_X5_leastPlan 0 [some (.ref x), some (.int (0 : Int32)), some (.int i1), some (.ref a3), none, none, none, none] [] h2) fun v5 h4 =>
        some (some (.int v5), h4))
        else none)
      else none) := zblk r [] 16 _ _ _ _ _
set_option maxRecDepth 100000 in
theorem E_X5_fair_0 (r : zE) (h : zH) (x : Nat) (i1 : Int32) (i2 : Int32) : zev r i_X5_fair 0 [some (.ref x), some (.int i1), some (.int i2)] [] h =
    (zcI (zev r i_X5_isWhen 0 [some (.int i1)] [] h) fun v1 h1 =>
    if v1 = 0 then
      some (some (.int (-1 : Int32)), h1)
    else
      if zob r h1 x 5 = true then
      (zcQ (zev r i_X5_rowAt 0 [some (.ref x), some (.int i2)] [] h1) fun v2 h2 => match v2 with
      | none => if zob r h2 x 5 = true then
        (zcI (zev r i_X5_leastPlan 0 [some (.ref x), some (.int (1 : Int32)), some (.int i1), some (.null), none, none, none, none] [] h2) fun v4 h3 =>
        some (some (.int v4), h3))
        else none
      | some a3 => if zob r h2 x 5 = true then
        (zcI (zev r i_X5_leastPlan 0 [some (.ref x), some (.int (1 : Int32)), some (.int i1), some (.ref a3), none, none, none, none] [] h2) fun v5 h4 =>
        some (some (.int v5), h4))
        else none)
      else none) := zblk r [] 16 _ _ _ _ _
set_option maxRecDepth 100000 in
theorem E_X5_mixed_0 (r : zE) (h : zH) (x : Nat) (i1 : Int32) : zev r i_X5_mixed 0 [some (.ref x), some (.int i1)] [] h =
    (if zob r h x 5 = true then
    (zcQ (zev r i_X5_rowAt 0 [some (.ref x), some (.int i1)] [] h) fun v1 h1 => match v1 with
    | none => if zob r h1 x 5 = true then
      (zcI (zev r i_X5_leastPlan 0 [some (.ref x), some (.int (2 : Int32)), some (.int (0 : Int32)), some (.null), none, none, none, none] [] h1) fun v3 h2 =>
      some (some (.int v3), h2))
      else none
    | some a2 => if zob r h1 x 5 = true then
      (zcI (zev r i_X5_leastPlan 0 [some (.ref x), some (.int (2 : Int32)), some (.int (0 : Int32)), some (.ref a2), none, none, none, none] [] h1) fun v4 h3 =>
      some (some (.int v4), h3))
      else none)
    else none) := zblk r [] 11 _ _ _ _ _
set_option maxRecDepth 100000 in
theorem E_X5_judge_0 (r : zE) (h : zH) (x : Nat) (i1 : Int32) (i2 : Int32) : zev r i_X5_judge 0 [some (.ref x), some (.int i1), some (.int i2), none] [] h =
    (if zob r h x 5 = true then
    (zcQ (zev r i_X5_rowAt 0 [some (.ref x), some (.int i1)] [] h) fun v1 h1 => match v1 with
    | none => some (some (.int (-1 : Int32)), h1)
    | some a2 => zcI (zev r i_X5_isWhen 0 [some (.int i2)] [] h1) fun v3 h2 =>
      if v3 = 0 then
        some (some (.int (-1 : Int32)), h2)
      else
        (zgR r h2 x 5 2).bind fun v4 =>
        (zgI r h2 v4 1 1).bind fun v5 =>
        if v5 = 0 then
          some (some (.int (-4 : Int32)), h2)
        else
          if zob r h2 a2 4 = true then
          (zcI (zev r i_X4_isMissing 0 [some (.ref a2)] [] h2) fun v6 h3 =>
          if v6 = 0 then
            (zgI r h3 a2 4 1).bind fun v7 =>
            (zgR r h3 x 5 2).bind fun v8 =>
            (zgI r h3 v8 1 1).bind fun v9 =>
            if v7 = v9 then
              (zgR r h3 x 5 4).bind fun v10 =>
              (zgR r h3 x 5 3).bind fun v11 =>
              if zob r h3 v10 0 = true then
              (zcV (zev r i_X0_copyFrom 0 [some (.ref v10), some (.ref v11)] [] h3) fun h4 =>
              (zgR r h4 x 5 4).bind fun v12 =>
              if zob r h4 v12 0 = true then
              (zcI (zev r i_X0_hangBy 0 [some (.ref v12), some (.ref a2), none, none] [] h4) fun v13 h5 =>
              if v13 = 0 then
                if zob r h5 x 5 = true then
                (zcI (zev r i_X5_found 0 [some (.ref x), some (.int (3 : Int32))] [] h5) fun v14 h6 =>
                some (some (.int v14), h6))
                else none
              else
                (zgR r h5 x 5 4).bind fun v15 =>
                if zob r h5 v15 0 = true then
                (zcI (zev r i_X0_allWakings 0 [some (.ref v15), some (.int i2), none, none] [] h5) fun v16 h7 =>
                some (some (.int v16), h7))
                else none)
              else none)
              else none
            else
              if zob r h3 x 5 = true then
              (zcI (zev r i_X5_found 0 [some (.ref x), some (.int (5 : Int32))] [] h3) fun v17 h8 =>
              some (some (.int v17), h8))
              else none
          else
            if zob r h3 x 5 = true then
            (zcI (zev r i_X5_found 0 [some (.ref x), some (.int (1 : Int32))] [] h3) fun v18 h9 =>
            some (some (.int v18), h9))
            else none)
          else none)
    else none) := zblk r [] 56 _ _ _ _ _
set_option maxRecDepth 100000 in
theorem E_X5_gain_0 (r : zE) (h : zH) (x : Nat) (i1 : Int32) (i2 : Int32) (i3 : Int32) : zev r i_X5_gain 0 [some (.ref x), some (.int i1), some (.int i2), some (.int i3)] [] h =
    ((zgR r h x 5 2).bind fun v1 =>
    if zob r h v1 1 = true then
    (zcI (zev r i_X1_hasMan 0 [some (.ref v1), some (.int i1)] [] h) fun v2 h1 =>
    if v2 = 0 then
      some (some (.int (-1 : Int32)), h1)
    else
      (zgR r h1 x 5 2).bind fun v3 =>
      if zob r h1 v3 1 = true then
      (zcI (zev r i_X1_hasMan 0 [some (.ref v3), some (.int i2)] [] h1) fun v4 h2 =>
      if v4 = 0 then
        some (some (.int (-1 : Int32)), h2)
      else
        if i1 = i2 then
          some (some (.int (-1 : Int32)), h2)
        else
          zcI (zev r i_X5_isWhen 0 [some (.int i3)] [] h2) fun v5 h3 =>
          if v5 = 0 then
            some (some (.int (-1 : Int32)), h3)
          else
            (zgR r h3 x 5 4).bind fun v6 =>
            (zgR r h3 x 5 3).bind fun v7 =>
            if zob r h3 v6 0 = true then
            (zcV (zev r i_X0_copyFrom 0 [some (.ref v6), some (.ref v7)] [] h3) fun h4 =>
            (zgR r h4 x 5 4).bind fun v8 =>
            if zob r h4 v8 0 = true then
            (zcV (zev r i_X0_swap 0 [some (.ref v8), some (.int i1), some (.int i2), none, none] [] h4) fun h5 =>
            (zgR r h5 x 5 3).bind fun v9 =>
            if zob r h5 v9 0 = true then
            (zcI (zev r i_X0_allWakings 0 [some (.ref v9), some (.int i3), none, none] [] h5) fun v10 h6 =>
            (zgR r h6 x 5 4).bind fun v11 =>
            if zob r h6 v11 0 = true then
            (zcI (zev r i_X0_allWakings 0 [some (.ref v11), some (.int i3), none, none] [] h6) fun v12 h7 =>
            some (some (.int (((100 : Int32) + v10) - v12)), h7))
            else none)
            else none)
            else none)
            else none)
      else none)
    else none) := zblk r [] 43 _ _ _ _ _
set_option maxRecDepth 100000 in
theorem E_X5_calm_0 (r : zE) (h : zH) (x : Nat) (i1 : Int32) : zev r i_X5_calm 0 [some (.ref x), some (.int i1), none] [] h =
    (zcI (zev r i_X5_isWhen 0 [some (.int i1)] [] h) fun v1 h1 =>
    if v1 = 0 then
      some (some (.int (-1 : Int32)), h1)
    else
      if zob r h1 x 5 = true then
      (zcI (zev r i_X5_firstGladPair 0 [some (.ref x), some (.int i1), none, none] [] h1) fun v2 h2 =>
      if zob r h2 x 5 = true then
      (zcV (zev r i_X5_tell 0 [some (.ref x), some (.int v2)] [] h2) fun h3 =>
      if v2 = (-9 : Int32) then
        some (some (.int (1 : Int32)), h3)
      else
        some (some (.int (0 : Int32)), h3))
      else none)
      else none) := zblk r [] 22 _ _ _ _ _
set_option maxRecDepth 100000 in
theorem E_X5_mates_0 (r : zE) (h : zH) (x : Nat) : zev r i_X5_mates 0 [some (.ref x), none, none] [] h =
    ((zgR r h x 5 2).bind fun v1 =>
    (zgI r h v1 1 1).bind fun v2 =>
    if v2 = 0 then
      some (some (.int (-4 : Int32)), h)
    else
      if zob r h x 5 = true then
      (zcV (zev r i_X5_beginPlans 0 [some (.ref x)] [] h) fun h1 =>
      (zgR r h1 x 5 2).bind fun v3 =>
      if zob r h1 v3 1 = true then
      (zcI (zev r i_X1_planCount 0 [some (.ref v3), none, none] [] h1) fun v4 h2 =>
      zev r i_X5_mates 27 [some (.ref x), some (.int (0 : Int32)), some (.int v4)] [] h2)
      else none)
      else none) := zblk r [27] 37 _ _ _ _ _
set_option maxRecDepth 100000 in
theorem E_X5_mates_27 (r : zE) (h : zH) (x : Nat) (l1 : Int32) (l2 : Int32) : zev r i_X5_mates 27 [some (.ref x), some (.int l1), some (.int l2)] [] h =
    (if 0 < l2 then
      (zgR r h x 5 4).bind fun v1 =>
      if zob r h v1 0 = true then
      (zcI (zev r i_X0_messmatePairs 0 [some (.ref v1), none, none, none, none] [] h) fun v2 h1 =>
      (zgR r h1 x 5 4).bind fun v3 =>
      if zob r h1 v3 0 = true then
      (zcV (zev r i_X0_hangByNextPlan 0 [some (.ref v3), none, none] [] h1) fun h2 =>
      zev r i_X5_mates 27 [some (.ref x), some (.int (if l1 < v2 then v2 else l1)), some (.int (l2 + (-1 : Int32)))] [] h2)
      else none)
      else none
    else
      if zob r h x 5 = true then
      (zcV (zev r i_X5_tell 0 [some (.ref x), some (.int l1)] [] h) fun h3 =>
      (zgR r h3 x 5 3).bind fun v4 =>
      if zob r h3 v4 0 = true then
      (zcI (zev r i_X0_messmatePairs 0 [some (.ref v4), none, none, none, none] [] h3) fun v5 h4 =>
      some (some (.int v5), h4))
      else none)
      else none) := zblk r [27] 37 _ _ _ _ _
set_option maxRecDepth 100000 in
theorem E_X5_cut_0 (r : zE) (h : zH) (x : Nat) (i1 : Int32) (i2 : Int32) : zev r i_X5_cut 0 [some (.ref x), some (.int i1), some (.int i2), none, none, none, none] [] h =
    ((zgR r h x 5 2).bind fun v1 =>
    if zob r h v1 1 = true then
    (zcI (zev r i_X1_hasMan 0 [some (.ref v1), some (.int i1)] [] h) fun v2 h1 =>
    if v2 = 0 then
      some (some (.int (-1 : Int32)), h1)
    else
      zcI (zev r i_X5_isWhen 0 [some (.int i2)] [] h1) fun v3 h2 =>
      if v3 = 0 then
        some (some (.int (-1 : Int32)), h2)
      else
        (zgR r h2 x 5 4).bind fun v4 =>
        (zgR r h2 x 5 3).bind fun v5 =>
        if zob r h2 v4 0 = true then
        (zcV (zev r i_X0_copyFrom 0 [some (.ref v4), some (.ref v5)] [] h2) fun h3 =>
        zev r i_X5_cut 42 [some (.ref x), some (.int i1), some (.int i2), some (.int (-9 : Int32)), some (.int (1000000 : Int32)), some (.int (1 : Int32)), none] [] h3)
        else none)
    else none) := zblk r [42] 52 _ _ _ _ _
set_option maxRecDepth 100000 in
theorem E_X5_cut_42 (r : zE) (h : zH) (x : Nat) (l1 : Int32) (l2 : Int32) (l3 : Int32) (l4 : Int32) (l5 : Int32) : zev r i_X5_cut 42 [some (.ref x), some (.int l1), some (.int l2), some (.int l3), some (.int l4), some (.int l5), none] [] h =
    (if (9 : Int32) < l5 then
      if zob r h x 5 = true then
      (zcV (zev r i_X5_tell 0 [some (.ref x), some (.int l4)] [] h) fun h1 =>
      some (some (.int l3), h1))
      else none
    else
      (zgR r h x 5 4).bind fun v1 =>
      (zgR r h v1 0 3).bind fun v2 =>
      (zsI r h v2 l1 l5).bind fun h2 =>
      (zgR r h2 x 5 4).bind fun v3 =>
      if zob r h2 v3 0 = true then
      (zcI (zev r i_X0_allWakings 0 [some (.ref v3), some (.int l2), none, none] [] h2) fun v4 h3 =>
      if v4 < l4 then
        zev r i_X5_cut 42 [some (.ref x), some (.int l1), some (.int l2), some (.int l5), some (.int v4), some (.int (l5 + (1 : Int32))), none] [] h3
      else
        zev r i_X5_cut 42 [some (.ref x), some (.int l1), some (.int l2), some (.int l3), some (.int l4), some (.int (l5 + (1 : Int32))), none] [] h3)
      else none) := zblk r [42] 52 _ _ _ _ _
set_option maxRecDepth 100000 in
theorem E_X5_up_0 (r : zE) (h : zH) (x : Nat) (i1 : Int32) (i2 : Int32) : zev r i_X5_up 0 [some (.ref x), some (.int i1), some (.int i2), none, none, none, none, none] [] h =
    (if zob r h x 5 = true then
    (zcQ (zev r i_X5_rowAt 0 [some (.ref x), some (.int i2)] [] h) fun v1 h1 => match v1 with
    | none => some (some (.int (-1 : Int32)), h1)
    | some a2 => zcI (zev r i_X5_isWhen 0 [some (.int i1)] [] h1) fun v3 h2 =>
      if v3 = 0 then
        some (some (.int (-1 : Int32)), h2)
      else
        (zgR r h2 x 5 2).bind fun v4 =>
        (zgI r h2 v4 1 1).bind fun v5 =>
        if v5 = 0 then
          some (some (.int (-4 : Int32)), h2)
        else
          (zgR r h2 x 5 4).bind fun v6 =>
          (zgR r h2 x 5 3).bind fun v7 =>
          if zob r h2 v6 0 = true then
          (zcV (zev r i_X0_copyFrom 0 [some (.ref v6), some (.ref v7)] [] h2) fun h3 =>
          (zgR r h3 x 5 4).bind fun v8 =>
          if zob r h3 v8 0 = true then
          (zcI (zev r i_X0_howManyIn 0 [some (.ref v8), some (.int i1), none, none] [] h3) fun v9 h4 =>
          if zob r h4 a2 4 = true then
          (zcV (zev r i_X4_renew 0 [some (.ref a2), some (.int v9), some (.int (0 : Int32))] [] h4) fun h5 =>
          zev r i_X5_up 66 [some (.ref x), some (.int i1), some (.int i2), some (.ref a2), some (.int v9), some (.int (0 : Int32)), some (.int (0 : Int32)), none] [] h5)
          else none)
          else none)
          else none)
    else none) := zblk r [66] 73 _ _ _ _ _
set_option maxRecDepth 100000 in
theorem E_X5_up_66 (r : zE) (h : zH) (x : Nat) (l1 : Int32) (l2 : Int32) (l3 : Nat) (l4 : Int32) (l5 : Int32) (l6 : Int32) : zev r i_X5_up 66 [some (.ref x), some (.int l1), some (.int l2), some (.ref l3), some (.int l4), some (.int l5), some (.int l6), none] [] h =
    (if l6 < l4 then
      (zgR r h x 5 4).bind fun v1 =>
      if zob r h v1 0 = true then
      (zcI (zev r i_X0_firstToGetUp 0 [some (.ref v1), some (.int l1), none] [] h) fun v2 h1 =>
      (zgR r h1 x 5 2).bind fun v3 =>
      if zob r h1 v3 1 = true then
      (zcI (zev r i_X1_hasMan 0 [some (.ref v3), some (.int v2)] [] h1) fun v4 h2 =>
      if v4 = 0 then
        some (some (.int l5), h2)
      else
        (zgR r h2 x 5 4).bind fun v5 =>
        if zob r h2 v5 0 = true then
        (zcI (zev r i_X0_inTheWayOf 0 [some (.ref v5), some (.int v2), some (.int l1), none, none, none] [] h2) fun v6 h3 =>
        if zob r h3 l3 4 = true then
        (zcV (zev r i_X4_set 0 [some (.ref l3), some (.int l6), some (.int v2)] [] h3) fun h4 =>
        (zgR r h4 x 5 4).bind fun v7 =>
        if zob r h4 v7 0 = true then
        (zcV (zev r i_X0_move 0 [some (.ref v7), some (.int v2), some (.int (-9 : Int32))] [] h4) fun h5 =>
        zev r i_X5_up 66 [some (.ref x), some (.int l1), some (.int l2), some (.ref l3), some (.int l4), some (.int (l5 + v6)), some (.int (l6 + (1 : Int32))), none] [] h5)
        else none)
        else none)
        else none)
      else none)
      else none
    else
      some (some (.int l5), h)) := zblk r [66] 73 _ _ _ _ _
set_option maxRecDepth 100000 in
theorem E_X5_fits_0 (r : zE) (h : zH) (x : Nat) (i1 : Int32) : zev r i_X5_fits 0 [some (.ref x), some (.int i1), none, none] [] h =
    (if zob r h x 5 = true then
    (zcQ (zev r i_X5_rowAt 0 [some (.ref x), some (.int i1)] [] h) fun v1 h1 => match v1 with
    | none => some (some (.int (-1 : Int32)), h1)
    | some a2 => (zgR r h1 x 5 2).bind fun v3 =>
      (zgI r h1 v3 1 1).bind fun v4 =>
      if v4 = 0 then
        some (some (.int (-4 : Int32)), h1)
      else
        if zob r h1 a2 4 = true then
        (zcI (zev r i_X4_isMissing 0 [some (.ref a2)] [] h1) fun v5 h2 =>
        if v5 = 0 then
          (zgI r h2 a2 4 1).bind fun v6 =>
          if (2 : Int32) = 0 then none else
          if (v6 - v6 / (2 : Int32) * (2 : Int32)) = 0 then
            zev r i_X5_fits 55 [some (.ref x), some (.int i1), some (.ref a2), some (.int (0 : Int32))] [] h2
          else
            if zob r h2 x 5 = true then
            (zcI (zev r i_X5_found 0 [some (.ref x), some (.int (5 : Int32))] [] h2) fun v7 h3 =>
            some (some (.int v7), h3))
            else none
        else
          if zob r h2 x 5 = true then
          (zcI (zev r i_X5_found 0 [some (.ref x), some (.int (1 : Int32))] [] h2) fun v8 h4 =>
          some (some (.int v8), h4))
          else none)
        else none)
    else none) := zblk r [55] 55 _ _ _ _ _
set_option maxRecDepth 100000 in
theorem E_X5_fits_55 (r : zE) (h : zH) (x : Nat) (l1 : Int32) (l2 : Nat) (l3 : Int32) : zev r i_X5_fits 55 [some (.ref x), some (.int l1), some (.ref l2), some (.int l3)] [] h =
    ((zgI r h l2 4 1).bind fun v1 =>
    if l3 < v1 then
      if zob r h l2 4 = true then
      (zcI (zev r i_X4_get 0 [some (.ref l2), some (.int l3)] [] h) fun v2 h1 =>
      zcI (zev r i_X5_isWhen 0 [some (.int v2)] [] h1) fun v3 h2 =>
      if v3 = 0 then
        if zob r h2 x 5 = true then
        (zcI (zev r i_X5_found 0 [some (.ref x), some (.int (3 : Int32))] [] h2) fun v4 h3 =>
        some (some (.int v4), h3))
        else none
      else
        zev r i_X5_fits 55 [some (.ref x), some (.int l1), some (.ref l2), some (.int (l3 + (2 : Int32)))] [] h2)
      else none
    else
      if zob r h x 5 = true then
      (zcV (zev r i_X5_countFitting 0 [some (.ref x), some (.ref l2), none, none, none, none] [] h) fun h4 =>
      some (some (.int (1 : Int32)), h4))
      else none) := zblk r [55] 55 _ _ _ _ _
set_option maxRecDepth 100000 in
theorem E_X5_mid_0 (r : zE) (h : zH) (x : Nat) (i1 : Int32) : zev r i_X5_mid 0 [some (.ref x), some (.int i1), none, none, none] [] h =
    (zcI (zev r i_X5_isWhen 0 [some (.int i1)] [] h) fun v1 h1 =>
    if v1 = 0 then
      some (some (.int (-1 : Int32)), h1)
    else
      (zgR r h1 x 5 2).bind fun v2 =>
      (zgI r h1 v2 1 1).bind fun v3 =>
      if v3 = 0 then
        some (some (.int (-4 : Int32)), h1)
      else
        if zob r h1 x 5 = true then
        (zcV (zev r i_X5_beginPlans 0 [some (.ref x)] [] h1) fun h2 =>
        (zgR r h2 x 5 2).bind fun v4 =>
        if zob r h2 v4 1 = true then
        (zcI (zev r i_X1_planCount 0 [some (.ref v4), none, none] [] h2) fun v5 h3 =>
        zev r i_X5_mid 37 [some (.ref x), some (.int i1), some (.long (0 : Int64)), none, some (.int v5)] [] h3)
        else none)
        else none) := zblk r [37] 46 _ _ _ _ _
set_option maxRecDepth 100000 in
theorem E_X5_mid_37 (r : zE) (h : zH) (x : Nat) (l1 : Int32) (l2 : Int64) (l4 : Int32) : zev r i_X5_mid 37 [some (.ref x), some (.int l1), some (.long l2), none, some (.int l4)] [] h =
    (if 0 < l4 then
      (zgR r h x 5 4).bind fun v1 =>
      if zob r h v1 0 = true then
      (zcI (zev r i_X0_allWakings 0 [some (.ref v1), some (.int l1), none, none] [] h) fun v2 h1 =>
      (zgR r h1 x 5 4).bind fun v3 =>
      if zob r h1 v3 0 = true then
      (zcV (zev r i_X0_hangByNextPlan 0 [some (.ref v3), none, none] [] h1) fun h2 =>
      zev r i_X5_mid 37 [some (.ref x), some (.int l1), some (.long (l2 + v2.toInt64)), none, some (.int (l4 + (-1 : Int32)))] [] h2)
      else none)
      else none
    else
      (zgR r h x 5 2).bind fun v4 =>
      if zob r h v4 1 = true then
      (zcI (zev r i_X1_planCount 0 [some (.ref v4), none, none] [] h) fun v5 h3 =>
      if zob r h3 x 5 = true then
      (zcV (zev r i_X5_tellMean 0 [some (.ref x), some (.long l2), none, some (.long v5.toInt64), none, none, none] [] h3) fun h4 =>
      some (some (.int (1 : Int32)), h4))
      else none)
      else none) := zblk r [37] 46 _ _ _ _ _
set_option maxRecDepth 100000 in
theorem E_X5_lots_0 (r : zE) (h : zH) (x : Nat) (i1 : Int32) (i2 : Int32) : zev r i_X5_lots 0 [some (.ref x), some (.int i1), some (.int i2), none, none, none, none] [] h =
    (if i1 < (1 : Int32) then
      some (some (.int (-1 : Int32)), h)
    else
      if (20 : Int32) < i1 then
        some (some (.int (-1 : Int32)), h)
      else
        if i2 < (1 : Int32) then
          some (some (.int (-1 : Int32)), h)
        else
          if (lg_cmp i2.toInt64 (2147483647 : Int64)) < 0 then
            (zgR r h x 5 2).bind fun v1 =>
            (zgI r h v1 1 1).bind fun v2 =>
            if v2 = 0 then
              some (some (.int (-4 : Int32)), h)
            else
              (zgR r h x 5 5).bind fun v3 =>
              if zob r h v3 2 = true then
              (zcI (zev r i_X2_hasRoomFor 0 [some (.ref v3), some (.int i1)] [] h) fun v4 h1 =>
              if v4 = 0 then
                some (some (.int (-2 : Int32)), h1)
              else
                zev r i_X5_lots 63 [some (.ref x), some (.int i1), some (.int i2), some (.long i2.toInt64), none, some (.int (0 : Int32)), some (.int (0 : Int32))] [] h1)
              else none
          else
            some (some (.int (-1 : Int32)), h)) := zblk r [63] 63 _ _ _ _ _
set_option maxRecDepth 100000 in
theorem E_X5_lots_63 (r : zE) (h : zH) (x : Nat) (l1 : Int32) (l2 : Int32) (l3 : Int64) (l5 : Int32) (l6 : Int32) : zev r i_X5_lots 63 [some (.ref x), some (.int l1), some (.int l2), some (.long l3), none, some (.int l5), some (.int l6)] [] h =
    (if l6 < l1 then
      if (2147483647 : Int64) = 0 then none else
      if (16 : Int64) = 0 then none else
      if (3 : Int64) = 0 then none else
      if zob r h x 5 = true then
      (zcI (zev r i_X5_sleptThrough 0 [some (.ref x), some (.int (((((l3 * (48271 : Int64)) - (l3 * (48271 : Int64)) / (2147483647 : Int64) * (2147483647 : Int64)) / (16 : Int64)) - (((l3 * (48271 : Int64)) - (l3 * (48271 : Int64)) / (2147483647 : Int64) * (2147483647 : Int64)) / (16 : Int64)) / (3 : Int64) * (3 : Int64)).toInt32)), none] [] h) fun v1 h1 =>
      zev r i_X5_lots 63 [some (.ref x), some (.int l1), some (.int l2), some (.long ((l3 * (48271 : Int64)) - (l3 * (48271 : Int64)) / (2147483647 : Int64) * (2147483647 : Int64))), none, some (.int (l5 + v1)), some (.int (l6 + (1 : Int32)))] [] h1)
      else none
    else
      some (some (.int l5), h)) := zblk r [63] 63 _ _ _ _ _
set_option maxRecDepth 100000 in
theorem E_X5_asked_0 (r : zE) (h : zH) (x : Nat) : zev r i_X5_asked 0 [some (.ref x)] [] h =
    ((zgI r h x 5 7).bind fun v1 =>
    some (some (.int v1), h)) := zblk r [] 6 _ _ _ _ _
set_option maxRecDepth 100000 in
theorem E_X5_upper_0 (r : zE) (h : zH) (x : Nat) : zev r i_X5_upper 0 [some (.ref x)] [] h =
    ((zgL r h x 5 8).bind fun v1 =>
    some (some (.long v1), h)) := zblk r [] 6 _ _ _ _ _
set_option maxRecDepth 100000 in
theorem E_X5_lower_0 (r : zE) (h : zH) (x : Nat) : zev r i_X5_lower 0 [some (.ref x)] [] h =
    ((zgL r h x 5 9).bind fun v1 =>
    some (some (.long v1), h)) := zblk r [] 6 _ _ _ _ _
set_option maxRecDepth 100000 in
theorem E_X5_count_0 (r : zE) (h : zH) (x : Nat) (i1 : Int32) : zev r i_X5_count 0 [some (.ref x), some (.int i1)] [] h =
    (if i1 < 0 then
      some (some (.int (-1 : Int32)), h)
    else
      if i1 < (9 : Int32) then
        if zob r h x 5 = true then
        (zcI (zev r i_X5_counted 0 [some (.ref x), some (.int i1)] [] h) fun v1 h1 =>
        some (some (.int v1), h1))
        else none
      else
        some (some (.int (-1 : Int32)), h)) := zblk r [] 14 _ _ _ _ _
set_option maxRecDepth 100000 in
theorem E_X5_digest_0 (r : zE) (h : zH) (x : Nat) : zev r i_X5_digest 0 [some (.ref x), none, none, none, none] [] h =
    (zev r i_X5_digest 6 [some (.ref x), some (.long (17 : Int64)), none, some (.int (0 : Int32)), none] [] h) := zblk r [6, 33, 47, 85, 99, 138, 172, 200] 129 _ _ _ _ _
set_option maxRecDepth 100000 in
theorem E_X5_digest_6 (r : zE) (h : zH) (x : Nat) (l1 : Int64) (l3 : Int32) : zev r i_X5_digest 6 [some (.ref x), some (.long l1), none, some (.int l3), none] [] h =
    (if l3 < (9 : Int32) then
      if zob r h x 5 = true then
      (zcI (zev r i_X5_counted 0 [some (.ref x), some (.int l3)] [] h) fun v1 h1 =>
      zev r i_X5_digest 6 [some (.ref x), some (.long (((31 : Int64) * l1) + v1.toInt64)), none, some (.int (l3 + (1 : Int32))), none] [] h1)
      else none
    else
      zev r i_X5_digest 33 [some (.ref x), some (.long l1), none, some (.int (0 : Int32)), none] [] h) := zblk r [6, 33, 47, 85, 99, 138, 172, 200] 129 _ _ _ _ _
set_option maxRecDepth 100000 in
theorem E_X5_digest_33 (r : zE) (h : zH) (x : Nat) (l1 : Int64) (l3 : Int32) : zev r i_X5_digest 33 [some (.ref x), some (.long l1), none, some (.int l3), none] [] h =
    ((zgR r h x 5 2).bind fun v1 =>
    (zgI r h v1 1 0).bind fun v2 =>
    if l3 < v2 then
      zev r i_X5_digest 47 [some (.ref x), some (.long l1), none, some (.int l3), some (.int (0 : Int32))] [] h
    else
      zev r i_X5_digest 85 [some (.ref x), some (.long l1), none, some (.int (0 : Int32)), none] [] h) := zblk r [6, 33, 47, 85, 99, 138, 172, 200] 129 _ _ _ _ _
set_option maxRecDepth 100000 in
theorem E_X5_digest_47 (r : zE) (h : zH) (x : Nat) (l1 : Int64) (l3 : Int32) (l4 : Int32) : zev r i_X5_digest 47 [some (.ref x), some (.long l1), none, some (.int l3), some (.int l4)] [] h =
    (if l4 < (2 : Int32) then
      (zgR r h x 5 3).bind fun v1 =>
      if zob r h v1 0 = true then
      (zcI (zev r i_X0_hookDetail 0 [some (.ref v1), some (.int l3), some (.int l4)] [] h) fun v2 h1 =>
      zev r i_X5_digest 47 [some (.ref x), some (.long (((31 : Int64) * l1) + v2.toInt64)), none, some (.int l3), some (.int (l4 + (1 : Int32)))] [] h1)
      else none
    else
      zev r i_X5_digest 33 [some (.ref x), some (.long l1), none, some (.int (l3 + (1 : Int32))), none] [] h) := zblk r [6, 33, 47, 85, 99, 138, 172, 200] 129 _ _ _ _ _
set_option maxRecDepth 100000 in
theorem E_X5_digest_85 (r : zE) (h : zH) (x : Nat) (l1 : Int64) (l3 : Int32) : zev r i_X5_digest 85 [some (.ref x), some (.long l1), none, some (.int l3), none] [] h =
    ((zgR r h x 5 2).bind fun v1 =>
    (zgI r h v1 1 1).bind fun v2 =>
    if l3 < v2 then
      zev r i_X5_digest 99 [some (.ref x), some (.long l1), none, some (.int l3), some (.int (0 : Int32))] [] h
    else
      zev r i_X5_digest 138 [some (.ref x), some (.long l1), none, some (.int (0 : Int32)), none] [] h) := zblk r [6, 33, 47, 85, 99, 138, 172, 200] 129 _ _ _ _ _
set_option maxRecDepth 100000 in
theorem E_X5_digest_99 (r : zE) (h : zH) (x : Nat) (l1 : Int64) (l3 : Int32) (l4 : Int32) : zev r i_X5_digest 99 [some (.ref x), some (.long l1), none, some (.int l3), some (.int l4)] [] h =
    (if l4 < (6 : Int32) then
      (zgR r h x 5 3).bind fun v1 =>
      if zob r h v1 0 = true then
      (zcI (zev r i_X0_manDetail 0 [some (.ref v1), some (.int l3), some (.int l4)] [] h) fun v2 h1 =>
      zev r i_X5_digest 99 [some (.ref x), some (.long (((31 : Int64) * l1) + v2.toInt64)), none, some (.int l3), some (.int (l4 + (1 : Int32)))] [] h1)
      else none
    else
      zev r i_X5_digest 85 [some (.ref x), some (.long l1), none, some (.int (l3 + (1 : Int32))), none] [] h) := zblk r [6, 33, 47, 85, 99, 138, 172, 200] 129 _ _ _ _ _
set_option maxRecDepth 100000 in
theorem E_X5_digest_138 (r : zE) (h : zH) (x : Nat) (l1 : Int64) (l3 : Int32) : zev r i_X5_digest 138 [some (.ref x), some (.long l1), none, some (.int l3), none] [] h =
    ((zgR r h x 5 6).bind fun v1 =>
    (zaN r h v1).bind fun n2 =>
    if l3 < (Int32.ofNat n2) then
      (zgR r h x 5 6).bind fun v3 =>
      (zaQ r h v3 l3).bind fun v4 => match v4 with
      | none => none
      | some a5 => (zgI r h a5 2 1).bind fun v6 =>
        zev r i_X5_digest 138 [some (.ref x), some (.long (((31 : Int64) * l1) + v6.toInt64)), none, some (.int (l3 + (1 : Int32))), none] [] h
    else
      zev r i_X5_digest 172 [some (.ref x), some (.long l1), none, some (.int (0 : Int32)), none] [] h) := zblk r [6, 33, 47, 85, 99, 138, 172, 200] 129 _ _ _ _ _
set_option maxRecDepth 100000 in
theorem E_X5_digest_172 (r : zE) (h : zH) (x : Nat) (l1 : Int64) (l3 : Int32) : zev r i_X5_digest 172 [some (.ref x), some (.long l1), none, some (.int l3), none] [] h =
    ((zgR r h x 5 0).bind fun v1 =>
    (zaN r h v1).bind fun n2 =>
    if l3 < (Int32.ofNat n2) then
      (zgR r h x 5 0).bind fun v3 =>
      (zaQ r h v3 l3).bind fun v4 => match v4 with
      | none => none
      | some a5 => if zob r h a5 4 = true then
        (zcL (zev r i_X4_digestedOnto 0 [some (.ref a5), some (.long l1), none, none, none, none] [] h) fun v6 h1 =>
        zev r i_X5_digest 172 [some (.ref x), some (.long v6), none, some (.int (l3 + (1 : Int32))), none] [] h1)
        else none
    else
      zev r i_X5_digest 200 [some (.ref x), some (.long l1), none, some (.int (0 : Int32)), none] [] h) := zblk r [6, 33, 47, 85, 99, 138, 172, 200] 129 _ _ _ _ _
set_option maxRecDepth 100000 in
theorem E_X5_digest_200 (r : zE) (h : zH) (x : Nat) (l1 : Int64) (l3 : Int32) : zev r i_X5_digest 200 [some (.ref x), some (.long l1), none, some (.int l3), none] [] h =
    ((zgR r h x 5 1).bind fun v1 =>
    (zaN r h v1).bind fun n2 =>
    if l3 < (Int32.ofNat n2) then
      (zgR r h x 5 1).bind fun v3 =>
      (zaQ r h v3 l3).bind fun v4 => match v4 with
      | none => none
      | some a5 => if zob r h a5 4 = true then
        (zcL (zev r i_X4_digestedOnto 0 [some (.ref a5), some (.long l1), none, none, none, none] [] h) fun v6 h1 =>
        zev r i_X5_digest 200 [some (.ref x), some (.long v6), none, some (.int (l3 + (1 : Int32))), none] [] h1)
        else none
    else
      some (some (.long l1), h)) := zblk r [6, 33, 47, 85, 99, 138, 172, 200] 129 _ _ _ _ _
set_option maxRecDepth 100000 in
theorem E_X5_rowAt_0 (r : zE) (h : zH) (x : Nat) (i1 : Int32) : zev r i_X5_rowAt 0 [some (.ref x), some (.int i1)] [] h =
    (if i1 < 0 then
      some (some .null, h)
    else
      (zgR r h x 5 0).bind fun v1 =>
      (zaN r h v1).bind fun n2 =>
      if i1 < (Int32.ofNat n2) then
        (zgR r h x 5 0).bind fun v3 =>
        (zaQ r h v3 i1).bind fun v4 => match v4 with
        | none => some (some .null, h)
        | some a5 => some (some (.ref a5), h)
      else
        some (some .null, h)) := zblk r [] 17 _ _ _ _ _
set_option maxRecDepth 100000 in
theorem E_X5_textAt_0 (r : zE) (h : zH) (x : Nat) (i1 : Int32) : zev r i_X5_textAt 0 [some (.ref x), some (.int i1)] [] h =
    (if i1 < 0 then
      some (some .null, h)
    else
      (zgR r h x 5 1).bind fun v1 =>
      (zaN r h v1).bind fun n2 =>
      if i1 < (Int32.ofNat n2) then
        (zgR r h x 5 1).bind fun v3 =>
        (zaQ r h v3 i1).bind fun v4 => match v4 with
        | none => some (some .null, h)
        | some a5 => some (some (.ref a5), h)
      else
        some (some .null, h)) := zblk r [] 17 _ _ _ _ _
set_option maxRecDepth 100000 in
theorem E_X5_isWhen_0 (r : zE) (h : zH) (i1 : Int32) : zev r i_X5_isWhen 0 [some (.int i1)] [] h =
    (if i1 < 0 then
      some (some (.int (0 : Int32)), h)
    else
      if (2 : Int32) < i1 then
        some (some (.int (0 : Int32)), h)
      else
        some (some (.int (1 : Int32)), h)) := zblk r [] 12 _ _ _ _ _
set_option maxRecDepth 100000 in
theorem E_X5_isKeptPlace_0 (r : zE) (h : zH) (x : Nat) (i1 : Int32) : zev r i_X5_isKeptPlace 0 [some (.ref x), some (.int i1)] [] h =
    (if i1 < 0 then
      some (some (.int (0 : Int32)), h)
    else
      (zgR r h x 5 6).bind fun v1 =>
      (zaN r h v1).bind fun n2 =>
      if i1 < (Int32.ofNat n2) then
        some (some (.int (1 : Int32)), h)
      else
        some (some (.int (0 : Int32)), h)) := zblk r [] 14 _ _ _ _ _
set_option maxRecDepth 100000 in
theorem E_X5_found_0 (r : zE) (h : zH) (x : Nat) (i1 : Int32) : zev r i_X5_found 0 [some (.ref x), some (.int i1)] [] h =
    (if i1 < (1 : Int32) then
      (zpF r h x 5 10 (.int i1)).bind fun h1 =>
      some (some (.int (-3 : Int32)), h1)
    else
      if (5 : Int32) < i1 then
        (zpF r h x 5 10 (.int i1)).bind fun h2 =>
        some (some (.int (-3 : Int32)), h2)
      else
        (zgR r h x 5 11).bind fun v1 =>
        (zaI r h v1 i1).bind fun v2 =>
        (zsI r h v1 i1 (v2 + (1 : Int32))).bind fun h3 =>
        (zpF r h3 x 5 10 (.int i1)).bind fun h4 =>
        some (some (.int (-3 : Int32)), h4)) := zblk r [] 22 _ _ _ _ _
set_option maxRecDepth 100000 in
theorem E_X5_tell_0 (r : zE) (h : zH) (x : Nat) (i1 : Int32) : zev r i_X5_tell 0 [some (.ref x), some (.int i1)] [] h =
    ((zpF r h x 5 7 (.int i1)).bind fun h1 =>
    some (none, h1)) := zblk r [] 7 _ _ _ _ _
set_option maxRecDepth 100000 in
theorem E_X5_tellMean_0 (r : zE) (h : zH) (x : Nat) (j1 : Int64) (j2 : Int64) : zev r i_X5_tellMean 0 [some (.ref x), some (.long j1), none, some (.long j2), none, none, none] [] h =
    (zcL (zev r i_X5_commonDivisor 0 [some (.long j1), none, some (.long j2), none, none, none, none, none, none, none, none] [] h) fun v1 h1 =>
    if (if v1 < (1 : Int64) then (1 : Int64) else v1) = 0 then none else
    (zpF r h1 x 5 8 (.long (j1 / (if v1 < (1 : Int64) then (1 : Int64) else v1)))).bind fun h2 =>
    if (if v1 < (1 : Int64) then (1 : Int64) else v1) = 0 then none else
    (zpF r h2 x 5 9 (.long (j2 / (if v1 < (1 : Int64) then (1 : Int64) else v1)))).bind fun h3 =>
    some (none, h3)) := zblk r [] 20 _ _ _ _ _
set_option maxRecDepth 100000 in
theorem E_X5_commonDivisor_0 (r : zE) (h : zH) (j1 : Int64) (j2 : Int64) : zev r i_X5_commonDivisor 0 [some (.long j1), none, some (.long j2), none, none, none, none, none, none, none, none] [] h =
    (zev r i_X5_commonDivisor 9 [some (.long j1), none, some (.long j2), none, some (.long j1), none, some (.long j2), none, some (.int (0 : Int32)), none, none] [] h) := zblk r [9] 29 _ _ _ _ _
set_option maxRecDepth 100000 in
theorem E_X5_commonDivisor_9 (r : zE) (h : zH) (l0 : Int64) (l2 : Int64) (l4 : Int64) (l6 : Int64) (l8 : Int32) : zev r i_X5_commonDivisor 9 [some (.long l0), none, some (.long l2), none, some (.long l4), none, some (.long l6), none, some (.int l8), none, none] [] h =
    (if l8 < (130 : Int32) then
      if (lg_cmp l6 (0 : Int64)) = 0 then
        some (some (.long (if 0 < l4 then l4 else -l4)), h)
      else
        if l6 = 0 then none else
        zev r i_X5_commonDivisor 9 [some (.long l0), none, some (.long l2), none, some (.long l6), none, some (.long (l4 - l4 / l6 * l6)), none, some (.int (l8 + (1 : Int32))), none, none] [] h
    else
      some (some (.long (if 0 < l4 then l4 else -l4)), h)) := zblk r [9] 29 _ _ _ _ _
set_option maxRecDepth 100000 in
theorem E_X5_renewed_0 (r : zE) (h : zH) (x : Nat) (a1 : Nat) (i2 : Int32) (i3 : Int32) (i4 : Int32) : zev r i_X5_renewed 0 [some (.ref x), some (.ref a1), some (.int i2), some (.int i3), some (.int i4)] [] h =
    (if i3 < i2 then
      some (some (.int (-1 : Int32)), h)
    else
      if i2 < 0 then
        if zob r h x 5 = true then
        (zcI (zev r i_X5_found 0 [some (.ref x), some (.int (5 : Int32))] [] h) fun v1 h1 =>
        some (some (.int v1), h1))
        else none
      else
        if zob r h a1 4 = true then
        (zcV (zev r i_X4_renew 0 [some (.ref a1), some (.int i2), some (.int i4)] [] h) fun h2 =>
        some (some (.int i2), h2))
        else none) := zblk r [] 22 _ _ _ _ _
set_option maxRecDepth 100000 in
theorem E_X5_renewed_0_n (r : zE) (h : zH) (x : Nat) (i2 : Int32) (i3 : Int32) (i4 : Int32) : zev r i_X5_renewed 0 [some (.ref x), some (.null), some (.int i2), some (.int i3), some (.int i4)] [] h =
    (some (some (.int (-1 : Int32)), h)) := zblk r [] 22 _ _ _ _ _
set_option maxRecDepth 100000 in
theorem E_X5_sleptThrough_0 (r : zE) (h : zH) (x : Nat) (i1 : Int32) : zev r i_X5_sleptThrough 0 [some (.ref x), some (.int i1), none] [] h =
    ((zgR r h x 5 3).bind fun v1 =>
    if zob r h v1 0 = true then
    (zcI (zev r i_X0_tire 0 [some (.ref v1), some (.int i1), none, none, none] [] h) fun v2 h1 =>
    (zgR r h1 x 5 5).bind fun v3 =>
    (zgR r h1 x 5 3).bind fun v4 =>
    if zob r h1 v3 2 = true then
    (zcV (zev r i_X2_add 0 [some (.ref v3), some (.ref v4)] [] h1) fun h2 =>
    some (some (.int v2), h2))
    else none)
    else none) := zblk r [] 15 _ _ _ _ _
set_option maxRecDepth 100000 in
theorem E_X5_wakingsWithout_0 (r : zE) (h : zH) (x : Nat) (i1 : Int32) (i2 : Int32) (i3 : Int32) : zev r i_X5_wakingsWithout 0 [some (.ref x), some (.int i1), some (.int i2), some (.int i3)] [] h =
    ((zgR r h x 5 4).bind fun v1 =>
    (zgR r h x 5 3).bind fun v2 =>
    if zob r h v1 0 = true then
    (zcV (zev r i_X0_copyFrom 0 [some (.ref v1), some (.ref v2)] [] h) fun h1 =>
    (zgR r h1 x 5 4).bind fun v3 =>
    if zob r h1 v3 0 = true then
    (zcV (zev r i_X0_move 0 [some (.ref v3), some (.int i1), some (.int (-9 : Int32))] [] h1) fun h2 =>
    (zgR r h2 x 5 4).bind fun v4 =>
    if zob r h2 v4 0 = true then
    (zcI (zev r i_X0_wakings 0 [some (.ref v4), some (.int i2), some (.int i3), none, none] [] h2) fun v5 h3 =>
    some (some (.int v5), h3))
    else none)
    else none)
    else none) := zblk r [] 19 _ _ _ _ _
set_option maxRecDepth 100000 in
theorem E_X5_beginPlans_0 (r : zE) (h : zH) (x : Nat) : zev r i_X5_beginPlans 0 [some (.ref x)] [] h =
    ((zgR r h x 5 4).bind fun v1 =>
    (zgR r h x 5 3).bind fun v2 =>
    if zob r h v1 0 = true then
    (zcV (zev r i_X0_copyFrom 0 [some (.ref v1), some (.ref v2)] [] h) fun h1 =>
    (zgR r h1 x 5 4).bind fun v3 =>
    if zob r h1 v3 0 = true then
    (zcV (zev r i_X0_hangByFirstPlan 0 [some (.ref v3), none] [] h1) fun h2 =>
    some (none, h2))
    else none)
    else none) := zblk r [] 12 _ _ _ _ _
set_option maxRecDepth 100000 in
theorem E_X5_leastPlan_0 (r : zE) (h : zH) (x : Nat) (i1 : Int32) (i2 : Int32) (a3 : Nat) : zev r i_X5_leastPlan 0 [some (.ref x), some (.int i1), some (.int i2), some (.ref a3), none, none, none, none] [] h =
    ((zgR r h x 5 2).bind fun v1 =>
    (zgI r h v1 1 1).bind fun v2 =>
    if v2 = 0 then
      some (some (.int (-4 : Int32)), h)
    else
      (zgR r h x 5 2).bind fun v3 =>
      (zgI r h v3 1 1).bind fun v4 =>
      if zob r h a3 4 = true then
      (zcV (zev r i_X4_renew 0 [some (.ref a3), some (.int v4), some (.int (0 : Int32))] [] h) fun h1 =>
      if zob r h1 x 5 = true then
      (zcV (zev r i_X5_beginPlans 0 [some (.ref x)] [] h1) fun h2 =>
      (zgR r h2 x 5 2).bind fun v5 =>
      if zob r h2 v5 1 = true then
      (zcI (zev r i_X1_planCount 0 [some (.ref v5), none, none] [] h2) fun v6 h3 =>
      zev r i_X5_leastPlan 49 [some (.ref x), some (.int i1), some (.int i2), some (.ref a3), some (.int (1000000 : Int32)), some (.int v6), none, none] [] h3)
      else none)
      else none)
      else none) := zblk r [49, 76] 63 _ _ _ _ _
set_option maxRecDepth 100000 in
theorem E_X5_leastPlan_0_n (r : zE) (h : zH) (x : Nat) (i1 : Int32) (i2 : Int32) : zev r i_X5_leastPlan 0 [some (.ref x), some (.int i1), some (.int i2), some (.null), none, none, none, none] [] h =
    (some (some (.int (-1 : Int32)), h)) := zblk r [49, 76] 63 _ _ _ _ _
set_option maxRecDepth 100000 in
theorem E_X5_leastPlan_49 (r : zE) (h : zH) (x : Nat) (l1 : Int32) (l2 : Int32) (l3 : Nat) (l4 : Int32) (l5 : Int32) : zev r i_X5_leastPlan 49 [some (.ref x), some (.int l1), some (.int l2), some (.ref l3), some (.int l4), some (.int l5), none, none] [] h =
    (if 0 < l5 then
      if zob r h x 5 = true then
      (zcI (zev r i_X5_weighed 0 [some (.ref x), some (.int l1), some (.int l2)] [] h) fun v1 h1 =>
      if v1 < l4 then
        zev r i_X5_leastPlan 76 [some (.ref x), some (.int l1), some (.int l2), some (.ref l3), some (.int v1), some (.int l5), some (.int v1), some (.int (0 : Int32))] [] h1
      else
        (zgR r h1 x 5 4).bind fun v2 =>
        if zob r h1 v2 0 = true then
        (zcV (zev r i_X0_hangByNextPlan 0 [some (.ref v2), none, none] [] h1) fun h2 =>
        zev r i_X5_leastPlan 49 [some (.ref x), some (.int l1), some (.int l2), some (.ref l3), some (.int l4), some (.int (l5 + (-1 : Int32))), none, none] [] h2)
        else none)
      else none
    else
      some (some (.int l4), h)) := zblk r [49, 76] 63 _ _ _ _ _
set_option maxRecDepth 100000 in
theorem E_X5_leastPlan_76 (r : zE) (h : zH) (x : Nat) (l1 : Int32) (l2 : Int32) (l3 : Nat) (l4 : Int32) (l5 : Int32) (l6 : Int32) (l7 : Int32) : zev r i_X5_leastPlan 76 [some (.ref x), some (.int l1), some (.int l2), some (.ref l3), some (.int l4), some (.int l5), some (.int l6), some (.int l7)] [] h =
    ((zgR r h x 5 2).bind fun v1 =>
    (zgI r h v1 1 1).bind fun v2 =>
    if l7 < v2 then
      (zgR r h x 5 4).bind fun v3 =>
      (zgR r h v3 0 1).bind fun v4 =>
      (zaI r h v4 l7).bind fun v5 =>
      if zob r h l3 4 = true then
      (zcV (zev r i_X4_set 0 [some (.ref l3), some (.int l7), some (.int v5)] [] h) fun h1 =>
      zev r i_X5_leastPlan 76 [some (.ref x), some (.int l1), some (.int l2), some (.ref l3), some (.int l4), some (.int l5), some (.int l6), some (.int (l7 + (1 : Int32)))] [] h1)
      else none
    else
      (zgR r h x 5 4).bind fun v6 =>
      if zob r h v6 0 = true then
      (zcV (zev r i_X0_hangByNextPlan 0 [some (.ref v6), none, none] [] h) fun h2 =>
      zev r i_X5_leastPlan 49 [some (.ref x), some (.int l1), some (.int l2), some (.ref l3), some (.int l4), some (.int (l5 + (-1 : Int32))), none, none] [] h2)
      else none) := zblk r [49, 76] 63 _ _ _ _ _
set_option maxRecDepth 100000 in
theorem E_X5_weighed_0 (r : zE) (h : zH) (x : Nat) (i1 : Int32) (i2 : Int32) : zev r i_X5_weighed 0 [some (.ref x), some (.int i1), some (.int i2)] [] h =
    (if i1 = (0 : Int32) then
      (zgR r h x 5 4).bind fun v1 =>
      if zob r h v1 0 = true then
      (zcI (zev r i_X0_allWakings 0 [some (.ref v1), some (.int i2), none, none] [] h) fun v2 h1 =>
      some (some (.int v2), h1))
      else none
    else if i1 = (1 : Int32) then
      (zgR r h x 5 4).bind fun v3 =>
      if zob r h v3 0 = true then
      (zcI (zev r i_X0_mostWakings 0 [some (.ref v3), some (.int i2), none, none] [] h) fun v4 h2 =>
      some (some (.int v4), h2))
      else none
    else (zgR r h x 5 4).bind fun v5 =>
      if zob r h v5 0 = true then
      (zcI (zev r i_X0_allWakings 0 [some (.ref v5), some (.int (1 : Int32)), none, none] [] h) fun v6 h3 =>
      (zgR r h3 x 5 4).bind fun v7 =>
      if zob r h3 v7 0 = true then
      (zcI (zev r i_X0_allWakings 0 [some (.ref v7), some (.int (2 : Int32)), none, none] [] h3) fun v8 h4 =>
      some (some (.int (v6 + v8)), h4))
      else none)
      else none) := zblk r [] 25 _ _ _ _ _
set_option maxRecDepth 100000 in
theorem E_X5_firstGladPair_0 (r : zE) (h : zH) (x : Nat) (i1 : Int32) : zev r i_X5_firstGladPair 0 [some (.ref x), some (.int i1), none, none] [] h =
    (zev r i_X5_firstGladPair 2 [some (.ref x), some (.int i1), some (.int (0 : Int32)), none] [] h) := zblk r [2, 17] 37 _ _ _ _ _
set_option maxRecDepth 100000 in
theorem E_X5_firstGladPair_2 (r : zE) (h : zH) (x : Nat) (l1 : Int32) (l2 : Int32) : zev r i_X5_firstGladPair 2 [some (.ref x), some (.int l1), some (.int l2), none] [] h =
    ((zgR r h x 5 2).bind fun v1 =>
    (zgI r h v1 1 1).bind fun v2 =>
    if l2 < v2 then
      zev r i_X5_firstGladPair 17 [some (.ref x), some (.int l1), some (.int l2), some (.int (l2 + (1 : Int32)))] [] h
    else
      some (some (.int (-9 : Int32)), h)) := zblk r [2, 17] 37 _ _ _ _ _
set_option maxRecDepth 100000 in
theorem E_X5_firstGladPair_17 (r : zE) (h : zH) (x : Nat) (l1 : Int32) (l2 : Int32) (l3 : Int32) : zev r i_X5_firstGladPair 17 [some (.ref x), some (.int l1), some (.int l2), some (.int l3)] [] h =
    ((zgR r h x 5 2).bind fun v1 =>
    (zgI r h v1 1 1).bind fun v2 =>
    if l3 < v2 then
      if zob r h x 5 = true then
      (zcI (zev r i_X5_wouldBothGladlyChange 0 [some (.ref x), some (.int l2), some (.int l3), some (.int l1)] [] h) fun v3 h1 =>
      if v3 = 0 then
        zev r i_X5_firstGladPair 17 [some (.ref x), some (.int l1), some (.int l2), some (.int (l3 + (1 : Int32)))] [] h1
      else
        some (some (.int (((6 : Int32) * l2) + l3)), h1))
      else none
    else
      zev r i_X5_firstGladPair 2 [some (.ref x), some (.int l1), some (.int (l2 + (1 : Int32))), none] [] h) := zblk r [2, 17] 37 _ _ _ _ _
set_option maxRecDepth 100000 in
theorem E_X5_wouldBothGladlyChange_0 (r : zE) (h : zH) (x : Nat) (i1 : Int32) (i2 : Int32) (i3 : Int32) : zev r i_X5_wouldBothGladlyChange 0 [some (.ref x), some (.int i1), some (.int i2), some (.int i3)] [] h =
    ((zgR r h x 5 3).bind fun v1 =>
    if zob r h v1 0 = true then
    (zcI (zev r i_X0_isIn 0 [some (.ref v1), some (.int i1), some (.int i3)] [] h) fun v2 h1 =>
    if v2 = 0 then
      some (some (.int (0 : Int32)), h1)
    else
      (zgR r h1 x 5 3).bind fun v3 =>
      if zob r h1 v3 0 = true then
      (zcI (zev r i_X0_isIn 0 [some (.ref v3), some (.int i2), some (.int i3)] [] h1) fun v4 h2 =>
      if v4 = 0 then
        some (some (.int (0 : Int32)), h2)
      else
        (zgR r h2 x 5 4).bind fun v5 =>
        (zgR r h2 x 5 3).bind fun v6 =>
        if zob r h2 v5 0 = true then
        (zcV (zev r i_X0_copyFrom 0 [some (.ref v5), some (.ref v6)] [] h2) fun h3 =>
        (zgR r h3 x 5 4).bind fun v7 =>
        if zob r h3 v7 0 = true then
        (zcV (zev r i_X0_swap 0 [some (.ref v7), some (.int i1), some (.int i2), none, none] [] h3) fun h4 =>
        (zgR r h4 x 5 4).bind fun v8 =>
        if zob r h4 v8 0 = true then
        (zcI (zev r i_X0_wakings 0 [some (.ref v8), some (.int i1), some (.int i3), none, none] [] h4) fun v9 h5 =>
        (zgR r h5 x 5 3).bind fun v10 =>
        if zob r h5 v10 0 = true then
        (zcI (zev r i_X0_wakings 0 [some (.ref v10), some (.int i1), some (.int i3), none, none] [] h5) fun v11 h6 =>
        if v9 < v11 then
          (zgR r h6 x 5 4).bind fun v12 =>
          if zob r h6 v12 0 = true then
          (zcI (zev r i_X0_wakings 0 [some (.ref v12), some (.int i2), some (.int i3), none, none] [] h6) fun v13 h7 =>
          (zgR r h7 x 5 3).bind fun v14 =>
          if zob r h7 v14 0 = true then
          (zcI (zev r i_X0_wakings 0 [some (.ref v14), some (.int i2), some (.int i3), none, none] [] h7) fun v15 h8 =>
          if v13 < v15 then
            some (some (.int (1 : Int32)), h8)
          else
            some (some (.int (0 : Int32)), h8))
          else none)
          else none
        else
          some (some (.int (0 : Int32)), h6))
        else none)
        else none)
        else none)
        else none)
      else none)
    else none) := zblk r [] 53 _ _ _ _ _
set_option maxRecDepth 100000 in
theorem E_X5_countFitting_0 (r : zE) (h : zH) (x : Nat) (a1 : Nat) : zev r i_X5_countFitting 0 [some (.ref x), some (.ref a1), none, none, none, none] [] h =
    (if zob r h x 5 = true then
    (zcV (zev r i_X5_beginPlans 0 [some (.ref x)] [] h) fun h1 =>
    (zgR r h1 x 5 2).bind fun v1 =>
    if zob r h1 v1 1 = true then
    (zcI (zev r i_X1_planCount 0 [some (.ref v1), none, none] [] h1) fun v2 h2 =>
    zev r i_X5_countFitting 18 [some (.ref x), some (.ref a1), some (.int (0 : Int32)), some (.int (-9 : Int32)), some (.int v2), none] [] h2)
    else none)
    else none) := zblk r [18] 51 _ _ _ _ _
set_option maxRecDepth 100000 in
theorem E_X5_countFitting_18 (r : zE) (h : zH) (x : Nat) (l1 : Nat) (l2 : Int32) (l3 : Int32) (l4 : Int32) : zev r i_X5_countFitting 18 [some (.ref x), some (.ref l1), some (.int l2), some (.int l3), some (.int l4), none] [] h =
    (if 0 < l4 then
      if zob r h x 5 = true then
      (zcI (zev r i_X5_fitsBook 0 [some (.ref x), some (.ref l1), none] [] h) fun v1 h1 =>
      if v1 = 0 then
        (zgR r h1 x 5 4).bind fun v2 =>
        if zob r h1 v2 0 = true then
        (zcV (zev r i_X0_hangByNextPlan 0 [some (.ref v2), none, none] [] h1) fun h2 =>
        zev r i_X5_countFitting 18 [some (.ref x), some (.ref l1), some (.int l2), some (.int l3), some (.int (l4 + (-1 : Int32))), none] [] h2)
        else none
      else
        (zgR r h1 x 5 4).bind fun v3 =>
        (zgR r h1 v3 0 1).bind fun v4 =>
        (zaI r h1 v4 (0 : Int32)).bind fun v5 =>
        if l2 = 0 then
          (zgR r h1 x 5 4).bind fun v6 =>
          if zob r h1 v6 0 = true then
          (zcV (zev r i_X0_hangByNextPlan 0 [some (.ref v6), none, none] [] h1) fun h3 =>
          zev r i_X5_countFitting 18 [some (.ref x), some (.ref l1), some (.int (l2 + (1 : Int32))), some (.int v5), some (.int (l4 + (-1 : Int32))), none] [] h3)
          else none
        else
          if l3 = v5 then
            (zgR r h1 x 5 4).bind fun v7 =>
            if zob r h1 v7 0 = true then
            (zcV (zev r i_X0_hangByNextPlan 0 [some (.ref v7), none, none] [] h1) fun h4 =>
            zev r i_X5_countFitting 18 [some (.ref x), some (.ref l1), some (.int (l2 + (1 : Int32))), some (.int v5), some (.int (l4 + (-1 : Int32))), none] [] h4)
            else none
          else
            (zgR r h1 x 5 4).bind fun v8 =>
            if zob r h1 v8 0 = true then
            (zcV (zev r i_X0_hangByNextPlan 0 [some (.ref v8), none, none] [] h1) fun h5 =>
            zev r i_X5_countFitting 18 [some (.ref x), some (.ref l1), some (.int (l2 + (1 : Int32))), some (.int (-9 : Int32)), some (.int (l4 + (-1 : Int32))), none] [] h5)
            else none)
      else none
    else
      (zpF r h x 5 8 (.long l2.toInt64)).bind fun h6 =>
      (zpF r h6 x 5 9 (.long (1 : Int64))).bind fun h7 =>
      if zob r h7 x 5 = true then
      (zcV (zev r i_X5_tell 0 [some (.ref x), some (.int l3)] [] h7) fun h8 =>
      some (none, h8))
      else none) := zblk r [18] 51 _ _ _ _ _
set_option maxRecDepth 100000 in
theorem E_X5_fitsBook_0 (r : zE) (h : zH) (x : Nat) (a1 : Nat) : zev r i_X5_fitsBook 0 [some (.ref x), some (.ref a1), none] [] h =
    (zev r i_X5_fitsBook 2 [some (.ref x), some (.ref a1), some (.int (0 : Int32))] [] h) := zblk r [2] 19 _ _ _ _ _
set_option maxRecDepth 100000 in
theorem E_X5_fitsBook_2 (r : zE) (h : zH) (x : Nat) (l1 : Nat) (l2 : Int32) : zev r i_X5_fitsBook 2 [some (.ref x), some (.ref l1), some (.int l2)] [] h =
    (if (2 : Int32) < l2 then
      some (some (.int (1 : Int32)), h)
    else
      if zob r h x 5 = true then
      (zcI (zev r i_X5_fitsBookBy 0 [some (.ref x), some (.int l2), some (.ref l1), none, none] [] h) fun v1 h1 =>
      if v1 = 0 then
        some (some (.int (0 : Int32)), h1)
      else
        zev r i_X5_fitsBook 2 [some (.ref x), some (.ref l1), some (.int (l2 + (1 : Int32)))] [] h1)
      else none) := zblk r [2] 19 _ _ _ _ _
set_option maxRecDepth 100000 in
theorem E_X5_fitsBookBy_0 (r : zE) (h : zH) (x : Nat) (i1 : Int32) (a2 : Nat) : zev r i_X5_fitsBookBy 0 [some (.ref x), some (.int i1), some (.ref a2), none, none] [] h =
    (zev r i_X5_fitsBookBy 6 [some (.ref x), some (.int i1), some (.ref a2), some (.int (-9 : Int32)), some (.int (0 : Int32))] [] h) := zblk r [6] 38 _ _ _ _ _
set_option maxRecDepth 100000 in
theorem E_X5_fitsBookBy_6 (r : zE) (h : zH) (x : Nat) (l1 : Int32) (l2 : Nat) (l3 : Int32) (l4 : Int32) : zev r i_X5_fitsBookBy 6 [some (.ref x), some (.int l1), some (.ref l2), some (.int l3), some (.int l4)] [] h =
    ((zgI r h l2 4 1).bind fun v1 =>
    if l4 < v1 then
      if zob r h l2 4 = true then
      (zcI (zev r i_X4_get 0 [some (.ref l2), some (.int l4)] [] h) fun v2 h1 =>
      if v2 = l1 then
        if l3 = (-9 : Int32) then
          (zgR r h1 x 5 4).bind fun v3 =>
          if zob r h1 v3 0 = true then
          (zcI (zev r i_X0_allWakings 0 [some (.ref v3), some (.int l1), none, none] [] h1) fun v4 h2 =>
          if zob r h2 l2 4 = true then
          (zcI (zev r i_X4_get 0 [some (.ref l2), some (.int (l4 + (1 : Int32)))] [] h2) fun v5 h3 =>
          if v4 = v5 then
            zev r i_X5_fitsBookBy 6 [some (.ref x), some (.int l1), some (.ref l2), some (.int v4), some (.int (l4 + (2 : Int32)))] [] h3
          else
            some (some (.int (0 : Int32)), h3))
          else none)
          else none
        else
          if zob r h1 l2 4 = true then
          (zcI (zev r i_X4_get 0 [some (.ref l2), some (.int (l4 + (1 : Int32)))] [] h1) fun v6 h4 =>
          if l3 = v6 then
            zev r i_X5_fitsBookBy 6 [some (.ref x), some (.int l1), some (.ref l2), some (.int l3), some (.int (l4 + (2 : Int32)))] [] h4
          else
            some (some (.int (0 : Int32)), h4))
          else none
      else
        zev r i_X5_fitsBookBy 6 [some (.ref x), some (.int l1), some (.ref l2), some (.int l3), some (.int (l4 + (2 : Int32)))] [] h1)
      else none
    else
      some (some (.int (1 : Int32)), h)) := zblk r [6] 38 _ _ _ _ _
set_option maxRecDepth 100000 in
theorem E_X5_counted_0 (r : zE) (h : zH) (x : Nat) (i1 : Int32) : zev r i_X5_counted 0 [some (.ref x), some (.int i1)] [] h =
    (if i1 = (0 : Int32) then
      (zgR r h x 5 2).bind fun v1 =>
      (zgI r h v1 1 1).bind fun v2 =>
      some (some (.int v2), h)
    else if i1 = (1 : Int32) then
      (zgR r h x 5 2).bind fun v3 =>
      (zgI r h v3 1 0).bind fun v4 =>
      some (some (.int v4), h)
    else if i1 = (2 : Int32) then
      (zgR r h x 5 5).bind fun v5 =>
      (zgI r h v5 2 1).bind fun v6 =>
      some (some (.int v6), h)
    else if i1 = (3 : Int32) then
      (zgR r h x 5 3).bind fun v7 =>
      if zob r h v7 0 = true then
      (zcI (zev r i_X0_howManyIn 0 [some (.ref v7), some (.int (0 : Int32)), none, none] [] h) fun v8 h1 =>
      some (some (.int v8), h1))
      else none
    else if i1 = (4 : Int32) then
      (zgR r h x 5 3).bind fun v9 =>
      if zob r h v9 0 = true then
      (zcI (zev r i_X0_tiredTogether 0 [some (.ref v9), none, none] [] h) fun v10 h2 =>
      some (some (.int v10), h2))
      else none
    else if i1 = (5 : Int32) then
      (zgR r h x 5 2).bind fun v11 =>
      if zob r h v11 1 = true then
      (zcI (zev r i_X1_bitsOf 0 [some (.ref v11), some (.int (1 : Int32)), none, none] [] h) fun v12 h3 =>
      zcI (zev r i_J6_bitCount_0f7a4 0 [some (.int v12)] [] h3) fun v13 h4 =>
      some (some (.int v13), h4))
      else none
    else if i1 = (6 : Int32) then
      (zgR r h x 5 0).bind fun v14 =>
      zcI (zev r i_X5_howManyThere 0 [some (.ref v14), none, none] [] h) fun v15 h5 =>
      some (some (.int v15), h5)
    else if i1 = (7 : Int32) then
      (zgR r h x 5 1).bind fun v16 =>
      zcI (zev r i_X5_howManyThere 0 [some (.ref v16), none, none] [] h) fun v17 h6 =>
      some (some (.int v17), h6)
    else if zob r h x 5 = true then
      (zcI (zev r i_X5_howManyKept 0 [some (.ref x), none, none] [] h) fun v18 h7 =>
      some (some (.int v18), h7))
      else none) := zblk r [] 43 _ _ _ _ _
set_option maxRecDepth 100000 in
theorem E_X5_howManyThere_0 (r : zE) (h : zH) (a1 : Nat) : zev r i_X5_howManyThere 0 [some (.ref a1), none, none] [] h =
    (zev r i_X5_howManyThere 4 [some (.ref a1), some (.int (0 : Int32)), some (.int (0 : Int32))] [] h) := zblk r [4] 21 _ _ _ _ _
set_option maxRecDepth 100000 in
theorem E_X5_howManyThere_4 (r : zE) (h : zH) (l0 : Nat) (l1 : Int32) (l2 : Int32) : zev r i_X5_howManyThere 4 [some (.ref l0), some (.int l1), some (.int l2)] [] h =
    ((zaN r h l0).bind fun n1 =>
    if l2 < (Int32.ofNat n1) then
      (zaQ r h l0 l2).bind fun v2 => match v2 with
      | none => none
      | some a3 => if zob r h a3 4 = true then
        (zcI (zev r i_X4_isMissing 0 [some (.ref a3)] [] h) fun v4 h1 =>
        if v4 = 0 then
          zev r i_X5_howManyThere 4 [some (.ref l0), some (.int (l1 + (1 : Int32))), some (.int (l2 + (1 : Int32)))] [] h1
        else
          zev r i_X5_howManyThere 4 [some (.ref l0), some (.int l1), some (.int (l2 + (1 : Int32)))] [] h1)
        else none
    else
      some (some (.int l1), h)) := zblk r [4] 21 _ _ _ _ _
set_option maxRecDepth 100000 in
theorem E_X5_howManyKept_0 (r : zE) (h : zH) (x : Nat) : zev r i_X5_howManyKept 0 [some (.ref x), none, none] [] h =
    (zev r i_X5_howManyKept 4 [some (.ref x), some (.int (0 : Int32)), some (.int (0 : Int32))] [] h) := zblk r [4] 23 _ _ _ _ _
set_option maxRecDepth 100000 in
theorem E_X5_howManyKept_4 (r : zE) (h : zH) (x : Nat) (l1 : Int32) (l2 : Int32) : zev r i_X5_howManyKept 4 [some (.ref x), some (.int l1), some (.int l2)] [] h =
    ((zgR r h x 5 6).bind fun v1 =>
    (zaN r h v1).bind fun n2 =>
    if l2 < (Int32.ofNat n2) then
      (zgR r h x 5 6).bind fun v3 =>
      (zaQ r h v3 l2).bind fun v4 => match v4 with
      | none => none
      | some a5 => if zob r h a5 2 = true then
        (zcI (zev r i_X2_isMissing 0 [some (.ref a5)] [] h) fun v6 h1 =>
        if v6 = 0 then
          zev r i_X5_howManyKept 4 [some (.ref x), some (.int (l1 + (1 : Int32))), some (.int (l2 + (1 : Int32)))] [] h1
        else
          zev r i_X5_howManyKept 4 [some (.ref x), some (.int l1), some (.int (l2 + (1 : Int32)))] [] h1)
        else none
    else
      some (some (.int l1), h)) := zblk r [4] 23 _ _ _ _ _
end
section
/-! stretches of code as equations (printed by wip/p48/gen20.py) -/
set_option maxRecDepth 100000 in
theorem E_L_cell_0 (r : zE) (h : zH) (a1 : Nat) (i2 : Int32) : zev r i_L_cell 0 [some (.ref a1), some (.int i2)] [] h =
    ((zaN r h a1).bind fun n1 =>
    if i2 < (Int32.ofNat n1) then
      (zaI r h a1 i2).bind fun v2 =>
      some (some (.int v2), h)
    else
      some (some (.int ((40503 : Int32) * (i2 + (7 : Int32)))), h)) := zblk r [] 17 _ _ _ _ _
set_option maxRecDepth 100000 in
theorem E_L_low_0 (r : zE) (h : zH) (i1 : Int32) (i2 : Int32) : zev r i_L_low 0 [some (.int i1), some (.int i2)] [] h =
    (if i2 = 0 then none else
    some (some (.int ((i1 &&& (2147483647 : Int32)) - (i1 &&& (2147483647 : Int32)) / i2 * i2)), h)) := zblk r [] 9 _ _ _ _ _
set_option maxRecDepth 100000 in
theorem E_L_letter_0 (r : zE) (h : zH) (i1 : Int32) : zev r i_L_letter 0 [some (.int i1)] [] h =
    (if i1 = 0 then
      some (some (.int (109 : Int32)), h)
    else
      if i1 = (1 : Int32) then
        some (some (.int (116 : Int32)), h)
      else
        if i1 = (2 : Int32) then
          some (some (.int (115 : Int32)), h)
        else
          if i1 = (3 : Int32) then
            some (some (.int (102 : Int32)), h)
          else
            if i1 = (4 : Int32) then
              some (some (.int (110 : Int32)), h)
            else
              some (some (.int (105 : Int32)), h)) := zblk r [] 29 _ _ _ _ _
set_option maxRecDepth 100000 in
theorem E_L_placeLetter_0 (r : zE) (h : zH) (i1 : Int32) : zev r i_L_placeLetter 0 [some (.int i1)] [] h =
    (if i1 = 0 then
      some (some (.int (46 : Int32)), h)
    else
      if i1 = (1 : Int32) then
        some (some (.int (100 : Int32)), h)
      else
        if i1 = (2 : Int32) then
          some (some (.int (108 : Int32)), h)
        else
          if i1 = (3 : Int32) then
            some (some (.int (117 : Int32)), h)
          else
            some (some (.int (103 : Int32)), h)) := zblk r [] 24 _ _ _ _ _
set_option maxRecDepth 100000 in
theorem E_L_deck_0 (r : zE) (h : zH) (a1 : Nat) (a2 : Nat) (a3 : Nat) (a4 : Nat) : zev r i_L_deck 0 [some (.ref a1), some (.ref a2), some (.ref a3), some (.ref a4), none, none, none, none] [] h =
    (zcI (zev r i_L_cell 0 [some (.ref a2), some (.int (0 : Int32))] [] h) fun v1 h1 =>
    zcI (zev r i_L_low 0 [some (.int v1), some (.int (6 : Int32))] [] h1) fun v2 h2 =>
    (zsI r h2 a3 (0 : Int32) ((2 : Int32) + v2)).bind fun h3 =>
    (zaI r h3 a3 (0 : Int32)).bind fun v3 =>
    if v3 < (6 : Int32) then
      (zaI r h3 a3 (0 : Int32)).bind fun v4 =>
      zev r i_L_deck 42 [some (.ref a1), some (.ref a2), some (.ref a3), some (.ref a4), some (.int v1), none, none, none] [.int v4, .int (v1 >>> ((3 : Int32) &&& 31)), .int (1 : Int32), .int (1 : Int32), .ref a3] h3
    else
      zev r i_L_deck 42 [some (.ref a1), some (.ref a2), some (.ref a3), some (.ref a4), some (.int v1), none, none, none] [.int (6 : Int32), .int (v1 >>> ((3 : Int32) &&& 31)), .int (1 : Int32), .int (1 : Int32), .ref a3] h3) := zblk r [42, 83, 125, 171, 214] 272 _ _ _ _ _
set_option maxRecDepth 100000 in
theorem E_L_deck_42 (r : zE) (h : zH) (l0 : Nat) (l1 : Nat) (l2 : Nat) (l3 : Nat) (l4 : Int32) (s0 : Int32) (s1 : Int32) (s2 : Int32) (s3 : Int32) (s4 : Nat) : zev r i_L_deck 42 [some (.ref l0), some (.ref l1), some (.ref l2), some (.ref l3), some (.int l4), none, none, none] [.int s0, .int s1, .int s2, .int s3, .ref s4] h =
    (zcI (zev r i_L_low 0 [some (.int s1), some (.int s0)] [] h) fun v1 h1 =>
    (zsI r h1 s4 s3 (s2 + v1)).bind fun h2 =>
    if zob r h2 l0 5 = true then
    (zcI (zev r i_X5_text 0 [some (.ref l0), some (.int (0 : Int32)), some (.int (60 : Int32))] [] h2) fun v2 h3 =>
    if v2 = (60 : Int32) then
      if zob r h3 l0 5 = true then
      (zcI (zev r i_X5_put 0 [some (.ref l0), some (.int (0 : Int32)), some (.int (0 : Int32)), some (.int (107 : Int32)), none, none] [] h3) fun v3 h4 =>
      if v3 = (1032 : Int32) then
        zev r i_L_deck 83 [some (.ref l0), some (.ref l1), some (.ref l2), some (.ref l3), some (.int l4), some (.int (1 : Int32)), some (.int (0 : Int32)), none] [] h4
      else
        zev r i_L_deck 83 [some (.ref l0), some (.ref l1), some (.ref l2), some (.ref l3), some (.int l4), some (.int (0 : Int32)), some (.int (0 : Int32)), none] [] h4)
      else none
    else
      zev r i_L_deck 83 [some (.ref l0), some (.ref l1), some (.ref l2), some (.ref l3), some (.int l4), some (.int (0 : Int32)), some (.int (0 : Int32)), none] [] h3)
    else none) := zblk r [42, 83, 125, 171, 214] 272 _ _ _ _ _
set_option maxRecDepth 100000 in
theorem E_L_deck_83 (r : zE) (h : zH) (l0 : Nat) (l1 : Nat) (l2 : Nat) (l3 : Nat) (l4 : Int32) (l5 : Int32) (l6 : Int32) : zev r i_L_deck 83 [some (.ref l0), some (.ref l1), some (.ref l2), some (.ref l3), some (.int l4), some (.int l5), some (.int l6), none] [] h =
    ((zaI r h l2 (0 : Int32)).bind fun v1 =>
    if l6 < v1 then
      if ((l4 >>> (((10 : Int32) + l6) &&& 31)) &&& (1 : Int32)) = 0 then
        zev r i_L_deck 125 [some (.ref l0), some (.ref l1), some (.ref l2), some (.ref l3), some (.int l4), some (.int l5), some (.int l6), none] [.int (0 : Int32), .int ((2 : Int32) + l6), .ref l2] h
      else
        zcI (zev r i_L_low 0 [some (.int (l4 >>> (((17 : Int32) + l6) &&& 31))), some (.int (5 : Int32))] [] h) fun v2 h1 =>
        zev r i_L_deck 125 [some (.ref l0), some (.ref l1), some (.ref l2), some (.ref l3), some (.int l4), some (.int l5), some (.int l6), none] [.int v2, .int ((2 : Int32) + l6), .ref l2] h1
    else
      zev r i_L_deck 171 [some (.ref l0), some (.ref l1), some (.ref l2), some (.ref l3), some (.int l4), some (.int l5), some (.int (0 : Int32)), none] [] h) := zblk r [42, 83, 125, 171, 214] 272 _ _ _ _ _
set_option maxRecDepth 100000 in
theorem E_L_deck_125 (r : zE) (h : zH) (l0 : Nat) (l1 : Nat) (l2 : Nat) (l3 : Nat) (l4 : Int32) (l5 : Int32) (l6 : Int32) (s0 : Int32) (s1 : Int32) (s2 : Nat) : zev r i_L_deck 125 [some (.ref l0), some (.ref l1), some (.ref l2), some (.ref l3), some (.int l4), some (.int l5), some (.int l6), none] [.int s0, .int s1, .ref s2] h =
    ((zsI r h s2 s1 s0).bind fun h1 =>
    if l5 = 0 then
      zev r i_L_deck 83 [some (.ref l0), some (.ref l1), some (.ref l2), some (.ref l3), some (.int l4), some (.int (0 : Int32)), some (.int (l6 + (1 : Int32))), none] [] h1
    else
      (zaI r h1 l2 ((2 : Int32) + l6)).bind fun v1 =>
      zcI (zev r i_L_placeLetter 0 [some (.int v1)] [] h1) fun v2 h2 =>
      if zob r h2 l0 5 = true then
      (zcI (zev r i_X5_put 0 [some (.ref l0), some (.int (0 : Int32)), some (.int ((1 : Int32) + l6)), some (.int v2), none, none] [] h2) fun v3 h3 =>
      if v3 = (1032 : Int32) then
        zev r i_L_deck 83 [some (.ref l0), some (.ref l1), some (.ref l2), some (.ref l3), some (.int l4), some (.int (1 : Int32)), some (.int (l6 + (1 : Int32))), none] [] h3
      else
        zev r i_L_deck 83 [some (.ref l0), some (.ref l1), some (.ref l2), some (.ref l3), some (.int l4), some (.int (0 : Int32)), some (.int (l6 + (1 : Int32))), none] [] h3)
      else none) := zblk r [42, 83, 125, 171, 214] 272 _ _ _ _ _
set_option maxRecDepth 100000 in
theorem E_L_deck_171 (r : zE) (h : zH) (l0 : Nat) (l1 : Nat) (l2 : Nat) (l3 : Nat) (l4 : Int32) (l5 : Int32) (l6 : Int32) : zev r i_L_deck 171 [some (.ref l0), some (.ref l1), some (.ref l2), some (.ref l3), some (.int l4), some (.int l5), some (.int l6), none] [] h =
    (if l6 < (6 : Int32) then
      (zaI r h l2 (1 : Int32)).bind fun v1 =>
      if l6 < v1 then
        (zsI r h l3 l6 l6).bind fun h1 =>
        (zsI r h1 l3 ((12 : Int32) + l6) (0 : Int32)).bind fun h2 =>
        zev r i_L_deck 171 [some (.ref l0), some (.ref l1), some (.ref l2), some (.ref l3), some (.int l4), some (.int l5), some (.int (l6 + (1 : Int32))), none] [] h2
      else
        (zsI r h l3 l6 (-9 : Int32)).bind fun h3 =>
        (zsI r h3 l3 ((12 : Int32) + l6) (0 : Int32)).bind fun h4 =>
        zev r i_L_deck 171 [some (.ref l0), some (.ref l1), some (.ref l2), some (.ref l3), some (.int l4), some (.int l5), some (.int (l6 + (1 : Int32))), none] [] h4
    else
      zev r i_L_deck 214 [some (.ref l0), some (.ref l1), some (.ref l2), some (.ref l3), some (.int l4), some (.int l5), some (.int (0 : Int32)), none] [] h) := zblk r [42, 83, 125, 171, 214] 272 _ _ _ _ _
set_option maxRecDepth 100000 in
theorem E_L_deck_214 (r : zE) (h : zH) (l0 : Nat) (l1 : Nat) (l2 : Nat) (l3 : Nat) (l4 : Int32) (l5 : Int32) (l6 : Int32) : zev r i_L_deck 214 [some (.ref l0), some (.ref l1), some (.ref l2), some (.ref l3), some (.int l4), some (.int l5), some (.int l6), none] [] h =
    ((zaI r h l2 (1 : Int32)).bind fun v1 =>
    if l6 < v1 then
      zcI (zev r i_L_cell 0 [some (.ref l1), some (.int ((1 : Int32) + l6))] [] h) fun v2 h1 =>
      zcI (zev r i_L_low 0 [some (.int v2), some (.int (6 : Int32))] [] h1) fun v3 h2 =>
      (zsI r h2 l2 ((9 : Int32) + l6) v3).bind fun h3 =>
      zcI (zev r i_L_low 0 [some (.int (v2 >>> ((3 : Int32) &&& 31))), some (.int (9 : Int32))] [] h3) fun v4 h4 =>
      (zsI r h4 l3 ((6 : Int32) + l6) ((1 : Int32) + v4)).bind fun h5 =>
      (zsI r h5 l2 ((15 : Int32) + l6) ((v2 >>> ((7 : Int32) &&& 31)) &&& (1 : Int32))).bind fun h6 =>
      (zsI r h6 l2 ((21 : Int32) + l6) ((v2 >>> ((8 : Int32) &&& 31)) &&& (3 : Int32))).bind fun h7 =>
      if l5 = 0 then
        zev r i_L_deck 214 [some (.ref l0), some (.ref l1), some (.ref l2), some (.ref l3), some (.int l4), some (.int (0 : Int32)), some (.int (l6 + (1 : Int32))), none] [] h7
      else
        (zaI r h7 l2 ((9 : Int32) + l6)).bind fun v5 =>
        zcI (zev r i_L_letter 0 [some (.int v5)] [] h7) fun v6 h8 =>
        if zob r h8 l0 5 = true then
        (zcI (zev r i_X5_put 0 [some (.ref l0), some (.int (0 : Int32)), some (.int ((9 : Int32) + ((5 : Int32) * l6))), some (.int v6), none, none] [] h8) fun v7 h9 =>
        if v7 = (1032 : Int32) then
          (zaI r h9 l3 ((6 : Int32) + l6)).bind fun v8 =>
          if zob r h9 l0 5 = true then
          (zcI (zev r i_X5_put 0 [some (.ref l0), some (.int (0 : Int32)), some (.int ((10 : Int32) + ((5 : Int32) * l6))), some (.int ((48 : Int32) + v8)), none, none] [] h9) fun v9 h10 =>
          if v9 = (1032 : Int32) then
            (zaI r h10 l2 ((15 : Int32) + l6)).bind fun v10 =>
            if zob r h10 l0 5 = true then
            (zcI (zev r i_X5_put 0 [some (.ref l0), some (.int (0 : Int32)), some (.int ((11 : Int32) + ((5 : Int32) * l6))), some (.int ((48 : Int32) + v10)), none, none] [] h10) fun v11 h11 =>
            if v11 = (1032 : Int32) then
              (zaI r h11 l2 ((21 : Int32) + l6)).bind fun v12 =>
              if zob r h11 l0 5 = true then
              (zcI (zev r i_X5_put 0 [some (.ref l0), some (.int (0 : Int32)), some (.int ((12 : Int32) + ((5 : Int32) * l6))), some (.int ((48 : Int32) + v12)), none, none] [] h11) fun v13 h12 =>
              if v13 = (1032 : Int32) then
                zev r i_L_deck 214 [some (.ref l0), some (.ref l1), some (.ref l2), some (.ref l3), some (.int l4), some (.int (1 : Int32)), some (.int (l6 + (1 : Int32))), none] [] h12
              else
                zev r i_L_deck 214 [some (.ref l0), some (.ref l1), some (.ref l2), some (.ref l3), some (.int l4), some (.int (0 : Int32)), some (.int (l6 + (1 : Int32))), none] [] h12)
              else none
            else
              zev r i_L_deck 214 [some (.ref l0), some (.ref l1), some (.ref l2), some (.ref l3), some (.int l4), some (.int (0 : Int32)), some (.int (l6 + (1 : Int32))), none] [] h11)
            else none
          else
            zev r i_L_deck 214 [some (.ref l0), some (.ref l1), some (.ref l2), some (.ref l3), some (.int l4), some (.int (0 : Int32)), some (.int (l6 + (1 : Int32))), none] [] h10)
          else none
        else
          zev r i_L_deck 214 [some (.ref l0), some (.ref l1), some (.ref l2), some (.ref l3), some (.int l4), some (.int (0 : Int32)), some (.int (l6 + (1 : Int32))), none] [] h9)
        else none
    else
      if l5 = 0 then
        some (some (.int (0 : Int32)), h)
      else
        if zob r h l0 5 = true then
        (zcI (zev r i_X5_fault 0 [some (.ref l0), some (.int (0 : Int32)), none] [] h) fun v14 h13 =>
        if v14 = (-9 : Int32) then
          if zob r h13 l0 5 = true then
          (zcI (zev r i_X5_deck 0 [some (.ref l0), some (.int (0 : Int32)), none, none, none] [] h13) fun v15 h14 =>
          (zaI r h14 l2 (1 : Int32)).bind fun v16 =>
          if v15 = v16 then
            some (some (.int (1 : Int32)), h14)
          else
            some (some (.int (0 : Int32)), h14))
          else none
        else
          some (some (.int (0 : Int32)), h13))
        else none) := zblk r [42, 83, 125, 171, 214] 272 _ _ _ _ _
set_option maxRecDepth 100000 in
theorem E_L_bits_0 (r : zE) (h : zH) (i1 : Int32) : zev r i_L_bits 0 [some (.int i1), none, none] [] h =
    (zev r i_L_bits 4 [some (.int i1), some (.int (0 : Int32)), some (.int (0 : Int32))] [] h) := zblk r [4] 22 _ _ _ _ _
set_option maxRecDepth 100000 in
theorem E_L_bits_4 (r : zE) (h : zH) (l0 : Int32) (l1 : Int32) (l2 : Int32) : zev r i_L_bits 4 [some (.int l0), some (.int l1), some (.int l2)] [] h =
    (if l2 < (7 : Int32) then
      zev r i_L_bits 4 [some (.int l0), some (.int (l1 + ((l0 >>> (l2 &&& 31)) &&& (1 : Int32)))), some (.int (l2 + (1 : Int32)))] [] h
    else
      some (some (.int l1), h)) := zblk r [4] 22 _ _ _ _ _
set_option maxRecDepth 100000 in
theorem E_L_whoAt_0 (r : zE) (h : zH) (a1 : Nat) (i2 : Int32) : zev r i_L_whoAt 0 [some (.ref a1), some (.int i2), none, none] [] h =
    (zev r i_L_whoAt 5 [some (.ref a1), some (.int i2), some (.int (-9 : Int32)), some (.int (0 : Int32))] [] h) := zblk r [5] 23 _ _ _ _ _
set_option maxRecDepth 100000 in
theorem E_L_whoAt_5 (r : zE) (h : zH) (l0 : Nat) (l1 : Int32) (l2 : Int32) (l3 : Int32) : zev r i_L_whoAt 5 [some (.ref l0), some (.int l1), some (.int l2), some (.int l3)] [] h =
    (if l3 < (6 : Int32) then
      (zaI r h l0 l3).bind fun v1 =>
      if v1 = l1 then
        zev r i_L_whoAt 5 [some (.ref l0), some (.int l1), some (.int l3), some (.int (l3 + (1 : Int32)))] [] h
      else
        zev r i_L_whoAt 5 [some (.ref l0), some (.int l1), some (.int l2), some (.int (l3 + (1 : Int32)))] [] h
    else
      some (some (.int l2), h)) := zblk r [5] 23 _ _ _ _ _
set_option maxRecDepth 100000 in
theorem E_L_stir_0 (r : zE) (h : zH) (a1 : Nat) (a2 : Nat) (a3 : Nat) (i4 : Int32) : zev r i_L_stir 0 [some (.ref a1), some (.ref a2), some (.ref a3), some (.int i4), none, none, none, none, none, none] [] h =
    ((zaI r h a2 (1 : Int32)).bind fun v1 =>
    zcI (zev r i_L_low 0 [some (.int i4), some (.int v1)] [] h) fun v2 h1 =>
    (zaI r h1 a2 (1 : Int32)).bind fun v3 =>
    zcI (zev r i_L_low 0 [some (.int (i4 >>> ((3 : Int32) &&& 31))), some (.int v3)] [] h1) fun v4 h2 =>
    (zaI r h2 a2 (0 : Int32)).bind fun v5 =>
    zcI (zev r i_L_low 0 [some (.int (i4 >>> ((6 : Int32) &&& 31))), some (.int v5)] [] h2) fun v6 h3 =>
    if ((i4 >>> ((9 : Int32) &&& 31)) &&& (1 : Int32)) = 0 then
      zcI (zev r i_L_whoAt 0 [some (.ref a3), some (.int v6), none, none] [] h3) fun v7 h4 =>
      if v7 < 0 then
        if (1 : Int32) = 0 then
          (zaI r h4 a3 v2).bind fun v8 =>
          zev r i_L_stir 77 [some (.ref a1), some (.ref a2), some (.ref a3), some (.int i4), some (.int v2), some (.int v4), some (.int v6), some (.int (1 : Int32)), some (.int (1 : Int32)), none] [.int v8, .int v2, .ref a3] h4
        else
          zev r i_L_stir 77 [some (.ref a1), some (.ref a2), some (.ref a3), some (.int i4), some (.int v2), some (.int v4), some (.int v6), some (.int (1 : Int32)), some (.int (1 : Int32)), none] [.int v6, .int v2, .ref a3] h4
      else
        if (0 : Int32) = 0 then
          (zaI r h4 a3 v2).bind fun v9 =>
          zev r i_L_stir 77 [some (.ref a1), some (.ref a2), some (.ref a3), some (.int i4), some (.int v2), some (.int v4), some (.int v6), some (.int (1 : Int32)), some (.int (0 : Int32)), none] [.int v9, .int v2, .ref a3] h4
        else
          zev r i_L_stir 77 [some (.ref a1), some (.ref a2), some (.ref a3), some (.int i4), some (.int v2), some (.int v4), some (.int v6), some (.int (1 : Int32)), some (.int (0 : Int32)), none] [.int v6, .int v2, .ref a3] h4
    else
      zev r i_L_stir 108 [some (.ref a1), some (.ref a2), some (.ref a3), some (.int i4), some (.int v2), some (.int v4), some (.int v6), some (.int (1 : Int32)), none, none] [] h3) := zblk r [77, 108, 143, 188, 234, 289] 199 _ _ _ _ _
set_option maxRecDepth 100000 in
theorem E_L_stir_77 (r : zE) (h : zH) (l0 : Nat) (l1 : Nat) (l2 : Nat) (l3 : Int32) (l4 : Int32) (l5 : Int32) (l6 : Int32) (l7 : Int32) (l8 : Int32) (s0 : Int32) (s1 : Int32) (s2 : Nat) : zev r i_L_stir 77 [some (.ref l0), some (.ref l1), some (.ref l2), some (.int l3), some (.int l4), some (.int l5), some (.int l6), some (.int l7), some (.int l8), none] [.int s0, .int s1, .ref s2] h =
    ((zsI r h s2 s1 s0).bind fun h1 =>
    if zob r h1 l0 5 = true then
    (zcI (zev r i_X5_hang 0 [some (.ref l0), some (.int l4), some (.int l6)] [] h1) fun v1 h2 =>
    if l8 = 0 then
      if v1 = (-4 : Int32) then
        zev r i_L_stir 108 [some (.ref l0), some (.ref l1), some (.ref l2), some (.int l3), some (.int l4), some (.int l5), some (.int l6), some (.int (1 : Int32)), some (.int l8), none] [] h2
      else
        zev r i_L_stir 108 [some (.ref l0), some (.ref l1), some (.ref l2), some (.int l3), some (.int l4), some (.int l5), some (.int l6), some (.int (0 : Int32)), some (.int l8), none] [] h2
    else
      if v1 = l6 then
        zev r i_L_stir 108 [some (.ref l0), some (.ref l1), some (.ref l2), some (.int l3), some (.int l4), some (.int l5), some (.int l6), some (.int (1 : Int32)), some (.int l8), none] [] h2
      else
        zev r i_L_stir 108 [some (.ref l0), some (.ref l1), some (.ref l2), some (.int l3), some (.int l4), some (.int l5), some (.int l6), some (.int (0 : Int32)), some (.int l8), none] [] h2)
    else none) := zblk r [77, 108, 143, 188, 234, 289] 199 _ _ _ _ _
set_option maxRecDepth 100000 in
theorem E_L_stir_108 (r : zE) (h : zH) (l0 : Nat) (l1 : Nat) (l2 : Nat) (l3 : Int32) (l4 : Int32) (l5 : Int32) (l6 : Int32) (l7 : Int32) : zev r i_L_stir 108 [some (.ref l0), some (.ref l1), some (.ref l2), some (.int l3), some (.int l4), some (.int l5), some (.int l6), some (.int l7), none, none] [] h =
    (if ((l3 >>> ((10 : Int32) &&& 31)) &&& (1 : Int32)) = 0 then
      if l4 = l5 then
        zev r i_L_stir 143 [some (.ref l0), some (.ref l1), some (.ref l2), some (.int l3), some (.int l4), some (.int l5), some (.int l6), some (.int l7), none, none] [.int (0 : Int32)] h
      else
        (zaI r h l2 l4).bind fun v1 =>
        if v1 < 0 then
          (zaI r h l2 l5).bind fun v2 =>
          if v2 < 0 then
            zev r i_L_stir 143 [some (.ref l0), some (.ref l1), some (.ref l2), some (.int l3), some (.int l4), some (.int l5), some (.int l6), some (.int l7), none, none] [.int (0 : Int32)] h
          else
            zev r i_L_stir 143 [some (.ref l0), some (.ref l1), some (.ref l2), some (.int l3), some (.int l4), some (.int l5), some (.int l6), some (.int l7), none, none] [.int (1 : Int32)] h
        else
          zev r i_L_stir 143 [some (.ref l0), some (.ref l1), some (.ref l2), some (.int l3), some (.int l4), some (.int l5), some (.int l6), some (.int l7), none, none] [.int (1 : Int32)] h
    else
      zev r i_L_stir 234 [some (.ref l0), some (.ref l1), some (.ref l2), some (.int l3), some (.int l4), some (.int l5), some (.int l6), some (.int l7), none, none] [] h) := zblk r [77, 108, 143, 188, 234, 289] 199 _ _ _ _ _
set_option maxRecDepth 100000 in
theorem E_L_stir_108a (r : zE) (h : zH) (l0 : Nat) (l1 : Nat) (l2 : Nat) (l3 : Int32) (l4 : Int32) (l5 : Int32) (l6 : Int32) (l7 : Int32) (l8 : Int32) : zev r i_L_stir 108 [some (.ref l0), some (.ref l1), some (.ref l2), some (.int l3), some (.int l4), some (.int l5), some (.int l6), some (.int l7), some (.int l8), none] [] h =
    (if ((l3 >>> ((10 : Int32) &&& 31)) &&& (1 : Int32)) = 0 then
      if l4 = l5 then
        zev r i_L_stir 143 [some (.ref l0), some (.ref l1), some (.ref l2), some (.int l3), some (.int l4), some (.int l5), some (.int l6), some (.int l7), some (.int l8), none] [.int (0 : Int32)] h
      else
        (zaI r h l2 l4).bind fun v1 =>
        if v1 < 0 then
          (zaI r h l2 l5).bind fun v2 =>
          if v2 < 0 then
            zev r i_L_stir 143 [some (.ref l0), some (.ref l1), some (.ref l2), some (.int l3), some (.int l4), some (.int l5), some (.int l6), some (.int l7), some (.int l8), none] [.int (0 : Int32)] h
          else
            zev r i_L_stir 143 [some (.ref l0), some (.ref l1), some (.ref l2), some (.int l3), some (.int l4), some (.int l5), some (.int l6), some (.int l7), some (.int l8), none] [.int (1 : Int32)] h
        else
          zev r i_L_stir 143 [some (.ref l0), some (.ref l1), some (.ref l2), some (.int l3), some (.int l4), some (.int l5), some (.int l6), some (.int l7), some (.int l8), none] [.int (1 : Int32)] h
    else
      zev r i_L_stir 234 [some (.ref l0), some (.ref l1), some (.ref l2), some (.int l3), some (.int l4), some (.int l5), some (.int l6), some (.int l7), some (.int l8), none] [] h) := zblk r [77, 108, 143, 188, 234, 289] 199 _ _ _ _ _
set_option maxRecDepth 100000 in
theorem E_L_stir_143 (r : zE) (h : zH) (l0 : Nat) (l1 : Nat) (l2 : Nat) (l3 : Int32) (l4 : Int32) (l5 : Int32) (l6 : Int32) (l7 : Int32) (s0 : Int32) : zev r i_L_stir 143 [some (.ref l0), some (.ref l1), some (.ref l2), some (.int l3), some (.int l4), some (.int l5), some (.int l6), some (.int l7), none, none] [.int s0] h =
    ((zaI r h l2 l4).bind fun v1 =>
    if s0 = 0 then
      (zaI r h l2 l4).bind fun v2 =>
      (zsI r h l2 l4 v2).bind fun h1 =>
      if s0 = 0 then
        (zaI r h1 l2 l5).bind fun v3 =>
        zev r i_L_stir 188 [some (.ref l0), some (.ref l1), some (.ref l2), some (.int l3), some (.int l4), some (.int l5), some (.int l6), some (.int l7), some (.int s0), some (.int v1)] [.int v3, .int l5, .ref l2] h1
      else
        zev r i_L_stir 188 [some (.ref l0), some (.ref l1), some (.ref l2), some (.int l3), some (.int l4), some (.int l5), some (.int l6), some (.int l7), some (.int s0), some (.int v1)] [.int v1, .int l5, .ref l2] h1
    else
      (zaI r h l2 l5).bind fun v4 =>
      (zsI r h l2 l4 v4).bind fun h2 =>
      if s0 = 0 then
        (zaI r h2 l2 l5).bind fun v5 =>
        zev r i_L_stir 188 [some (.ref l0), some (.ref l1), some (.ref l2), some (.int l3), some (.int l4), some (.int l5), some (.int l6), some (.int l7), some (.int s0), some (.int v1)] [.int v5, .int l5, .ref l2] h2
      else
        zev r i_L_stir 188 [some (.ref l0), some (.ref l1), some (.ref l2), some (.int l3), some (.int l4), some (.int l5), some (.int l6), some (.int l7), some (.int s0), some (.int v1)] [.int v1, .int l5, .ref l2] h2) := zblk r [77, 108, 143, 188, 234, 289] 199 _ _ _ _ _
set_option maxRecDepth 100000 in
theorem E_L_stir_234 (r : zE) (h : zH) (l0 : Nat) (l1 : Nat) (l2 : Nat) (l3 : Int32) (l4 : Int32) (l5 : Int32) (l6 : Int32) (l7 : Int32) : zev r i_L_stir 234 [some (.ref l0), some (.ref l1), some (.ref l2), some (.int l3), some (.int l4), some (.int l5), some (.int l6), some (.int l7), none, none] [] h =
    (if ((l3 >>> ((11 : Int32) &&& 31)) &&& (7 : Int32)) = 0 then
      (zaI r h l2 l5).bind fun v1 =>
      (zsI r h l2 l5 (-9 : Int32)).bind fun h1 =>
      if l7 = 0 then
        zev r i_L_stir 289 [some (.ref l0), some (.ref l1), some (.ref l2), some (.int l3), some (.int l4), some (.int l5), some (.int l6), some (.int (0 : Int32)), some (.int v1), none] [] h1
      else
        if zob r h1 l0 5 = true then
        (zcI (zev r i_X5_down 0 [some (.ref l0), some (.int l5), none] [] h1) fun v2 h2 =>
        if v1 < 0 then
          if v2 = (-4 : Int32) then
            zev r i_L_stir 289 [some (.ref l0), some (.ref l1), some (.ref l2), some (.int l3), some (.int l4), some (.int l5), some (.int l6), some (.int (1 : Int32)), some (.int v1), none] [] h2
          else
            zev r i_L_stir 289 [some (.ref l0), some (.ref l1), some (.ref l2), some (.int l3), some (.int l4), some (.int l5), some (.int l6), some (.int (0 : Int32)), some (.int v1), none] [] h2
        else
          if v2 = v1 then
            zev r i_L_stir 289 [some (.ref l0), some (.ref l1), some (.ref l2), some (.int l3), some (.int l4), some (.int l5), some (.int l6), some (.int (1 : Int32)), some (.int v1), none] [] h2
          else
            zev r i_L_stir 289 [some (.ref l0), some (.ref l1), some (.ref l2), some (.int l3), some (.int l4), some (.int l5), some (.int l6), some (.int (0 : Int32)), some (.int v1), none] [] h2)
        else none
    else
      zev r i_L_stir 289 [some (.ref l0), some (.ref l1), some (.ref l2), some (.int l3), some (.int l4), some (.int l5), some (.int l6), some (.int l7), none, none] [] h) := zblk r [77, 108, 143, 188, 234, 289] 199 _ _ _ _ _
set_option maxRecDepth 100000 in
theorem E_L_stir_143a (r : zE) (h : zH) (l0 : Nat) (l1 : Nat) (l2 : Nat) (l3 : Int32) (l4 : Int32) (l5 : Int32) (l6 : Int32) (l7 : Int32) (l8 : Int32) (s0 : Int32) : zev r i_L_stir 143 [some (.ref l0), some (.ref l1), some (.ref l2), some (.int l3), some (.int l4), some (.int l5), some (.int l6), some (.int l7), some (.int l8), none] [.int s0] h =
    ((zaI r h l2 l4).bind fun v1 =>
    if s0 = 0 then
      (zaI r h l2 l4).bind fun v2 =>
      (zsI r h l2 l4 v2).bind fun h1 =>
      if s0 = 0 then
        (zaI r h1 l2 l5).bind fun v3 =>
        zev r i_L_stir 188 [some (.ref l0), some (.ref l1), some (.ref l2), some (.int l3), some (.int l4), some (.int l5), some (.int l6), some (.int l7), some (.int s0), some (.int v1)] [.int v3, .int l5, .ref l2] h1
      else
        zev r i_L_stir 188 [some (.ref l0), some (.ref l1), some (.ref l2), some (.int l3), some (.int l4), some (.int l5), some (.int l6), some (.int l7), some (.int s0), some (.int v1)] [.int v1, .int l5, .ref l2] h1
    else
      (zaI r h l2 l5).bind fun v4 =>
      (zsI r h l2 l4 v4).bind fun h2 =>
      if s0 = 0 then
        (zaI r h2 l2 l5).bind fun v5 =>
        zev r i_L_stir 188 [some (.ref l0), some (.ref l1), some (.ref l2), some (.int l3), some (.int l4), some (.int l5), some (.int l6), some (.int l7), some (.int s0), some (.int v1)] [.int v5, .int l5, .ref l2] h2
      else
        zev r i_L_stir 188 [some (.ref l0), some (.ref l1), some (.ref l2), some (.int l3), some (.int l4), some (.int l5), some (.int l6), some (.int l7), some (.int s0), some (.int v1)] [.int v1, .int l5, .ref l2] h2) := zblk r [77, 108, 143, 188, 234, 289] 199 _ _ _ _ _
set_option maxRecDepth 100000 in
theorem E_L_stir_234a (r : zE) (h : zH) (l0 : Nat) (l1 : Nat) (l2 : Nat) (l3 : Int32) (l4 : Int32) (l5 : Int32) (l6 : Int32) (l7 : Int32) (l8 : Int32) : zev r i_L_stir 234 [some (.ref l0), some (.ref l1), some (.ref l2), some (.int l3), some (.int l4), some (.int l5), some (.int l6), some (.int l7), some (.int l8), none] [] h =
    (if ((l3 >>> ((11 : Int32) &&& 31)) &&& (7 : Int32)) = 0 then
      (zaI r h l2 l5).bind fun v1 =>
      (zsI r h l2 l5 (-9 : Int32)).bind fun h1 =>
      if l7 = 0 then
        zev r i_L_stir 289 [some (.ref l0), some (.ref l1), some (.ref l2), some (.int l3), some (.int l4), some (.int l5), some (.int l6), some (.int (0 : Int32)), some (.int v1), none] [] h1
      else
        if zob r h1 l0 5 = true then
        (zcI (zev r i_X5_down 0 [some (.ref l0), some (.int l5), none] [] h1) fun v2 h2 =>
        if v1 < 0 then
          if v2 = (-4 : Int32) then
            zev r i_L_stir 289 [some (.ref l0), some (.ref l1), some (.ref l2), some (.int l3), some (.int l4), some (.int l5), some (.int l6), some (.int (1 : Int32)), some (.int v1), none] [] h2
          else
            zev r i_L_stir 289 [some (.ref l0), some (.ref l1), some (.ref l2), some (.int l3), some (.int l4), some (.int l5), some (.int l6), some (.int (0 : Int32)), some (.int v1), none] [] h2
        else
          if v2 = v1 then
            zev r i_L_stir 289 [some (.ref l0), some (.ref l1), some (.ref l2), some (.int l3), some (.int l4), some (.int l5), some (.int l6), some (.int (1 : Int32)), some (.int v1), none] [] h2
          else
            zev r i_L_stir 289 [some (.ref l0), some (.ref l1), some (.ref l2), some (.int l3), some (.int l4), some (.int l5), some (.int l6), some (.int (0 : Int32)), some (.int v1), none] [] h2)
        else none
    else
      zev r i_L_stir 289 [some (.ref l0), some (.ref l1), some (.ref l2), some (.int l3), some (.int l4), some (.int l5), some (.int l6), some (.int l7), some (.int l8), none] [] h) := zblk r [77, 108, 143, 188, 234, 289] 199 _ _ _ _ _
set_option maxRecDepth 100000 in
theorem E_L_stir_188 (r : zE) (h : zH) (l0 : Nat) (l1 : Nat) (l2 : Nat) (l3 : Int32) (l4 : Int32) (l5 : Int32) (l6 : Int32) (l7 : Int32) (l8 : Int32) (l9 : Int32) (s0 : Int32) (s1 : Int32) (s2 : Nat) : zev r i_L_stir 188 [some (.ref l0), some (.ref l1), some (.ref l2), some (.int l3), some (.int l4), some (.int l5), some (.int l6), some (.int l7), some (.int l8), some (.int l9)] [.int s0, .int s1, .ref s2] h =
    ((zsI r h s2 s1 s0).bind fun h1 =>
    if l7 = 0 then
      zev r i_L_stir 234 [some (.ref l0), some (.ref l1), some (.ref l2), some (.int l3), some (.int l4), some (.int l5), some (.int l6), some (.int (0 : Int32)), some (.int l8), some (.int l9)] [] h1
    else
      if zob r h1 l0 5 = true then
      (zcI (zev r i_X5_change 0 [some (.ref l0), some (.int l4), some (.int l5)] [] h1) fun v1 h2 =>
      if l4 = l5 then
        if v1 = (-1 : Int32) then
          zev r i_L_stir 234 [some (.ref l0), some (.ref l1), some (.ref l2), some (.int l3), some (.int l4), some (.int l5), some (.int l6), some (.int (1 : Int32)), some (.int l8), some (.int l9)] [] h2
        else
          zev r i_L_stir 234 [some (.ref l0), some (.ref l1), some (.ref l2), some (.int l3), some (.int l4), some (.int l5), some (.int l6), some (.int (0 : Int32)), some (.int l8), some (.int l9)] [] h2
      else
        if l8 = 0 then
          if v1 = (-4 : Int32) then
            zev r i_L_stir 234 [some (.ref l0), some (.ref l1), some (.ref l2), some (.int l3), some (.int l4), some (.int l5), some (.int l6), some (.int (1 : Int32)), some (.int l8), some (.int l9)] [] h2
          else
            zev r i_L_stir 234 [some (.ref l0), some (.ref l1), some (.ref l2), some (.int l3), some (.int l4), some (.int l5), some (.int l6), some (.int (0 : Int32)), some (.int l8), some (.int l9)] [] h2
        else
          if v1 = (1 : Int32) then
            zev r i_L_stir 234 [some (.ref l0), some (.ref l1), some (.ref l2), some (.int l3), some (.int l4), some (.int l5), some (.int l6), some (.int (1 : Int32)), some (.int l8), some (.int l9)] [] h2
          else
            zev r i_L_stir 234 [some (.ref l0), some (.ref l1), some (.ref l2), some (.int l3), some (.int l4), some (.int l5), some (.int l6), some (.int (0 : Int32)), some (.int l8), some (.int l9)] [] h2)
      else none) := zblk r [77, 108, 143, 188, 234, 289] 199 _ _ _ _ _
set_option maxRecDepth 100000 in
theorem E_L_stir_289 (r : zE) (h : zH) (l0 : Nat) (l1 : Nat) (l2 : Nat) (l3 : Int32) (l4 : Int32) (l5 : Int32) (l6 : Int32) (l7 : Int32) (l8 : Int32) : zev r i_L_stir 289 [some (.ref l0), some (.ref l1), some (.ref l2), some (.int l3), some (.int l4), some (.int l5), some (.int l6), some (.int l7), some (.int l8), none] [] h =
    (zcI (zev r i_L_low 0 [some (.int (l3 >>> ((14 : Int32) &&& 31))), some (.int (9 : Int32))] [] h) fun v1 h1 =>
    (zaI r h1 l2 ((6 : Int32) + l5)).bind fun v2 =>
    (zsI r h1 l2 ((6 : Int32) + l5) ((1 : Int32) + v1)).bind fun h2 =>
    if l7 = 0 then
      some (some (.int (0 : Int32)), h2)
    else
      if zob r h2 l0 5 = true then
      (zcI (zev r i_X5_line 0 [some (.ref l0), some (.int l5), some (.int ((1 : Int32) + v1)), none] [] h2) fun v3 h3 =>
      if v2 = ((1 : Int32) + v1) then
        if v3 = (-4 : Int32) then
          some (some (.int (1 : Int32)), h3)
        else
          some (some (.int (0 : Int32)), h3)
      else
        if v3 = v2 then
          some (some (.int (1 : Int32)), h3)
        else
          some (some (.int (0 : Int32)), h3))
      else none) := zblk r [77, 108, 143, 188, 234, 289] 199 _ _ _ _ _
set_option maxRecDepth 100000 in
theorem E_L_stir_289_1 (r : zE) (h : zH) (l0 : Nat) (l1 : Nat) (l2 : Nat) (l3 : Int32) (l4 : Int32) (l5 : Int32) (l6 : Int32) (l7 : Int32) : zev r i_L_stir 289 [some (.ref l0), some (.ref l1), some (.ref l2), some (.int l3), some (.int l4), some (.int l5), some (.int l6), some (.int l7), none, none] [] h =
    (zcI (zev r i_L_low 0 [some (.int (l3 >>> ((14 : Int32) &&& 31))), some (.int (9 : Int32))] [] h) fun v1 h1 =>
    (zaI r h1 l2 ((6 : Int32) + l5)).bind fun v2 =>
    (zsI r h1 l2 ((6 : Int32) + l5) ((1 : Int32) + v1)).bind fun h2 =>
    if l7 = 0 then
      some (some (.int (0 : Int32)), h2)
    else
      if zob r h2 l0 5 = true then
      (zcI (zev r i_X5_line 0 [some (.ref l0), some (.int l5), some (.int ((1 : Int32) + v1)), none] [] h2) fun v3 h3 =>
      if v2 = ((1 : Int32) + v1) then
        if v3 = (-4 : Int32) then
          some (some (.int (1 : Int32)), h3)
        else
          some (some (.int (0 : Int32)), h3)
      else
        if v3 = v2 then
          some (some (.int (1 : Int32)), h3)
        else
          some (some (.int (0 : Int32)), h3))
      else none) := zblk r [77, 108, 143, 188, 234, 289] 199 _ _ _ _ _
set_option maxRecDepth 100000 in
theorem E_L_stir_234aa (r : zE) (h : zH) (l0 : Nat) (l1 : Nat) (l2 : Nat) (l3 : Int32) (l4 : Int32) (l5 : Int32) (l6 : Int32) (l7 : Int32) (l8 : Int32) (l9 : Int32) : zev r i_L_stir 234 [some (.ref l0), some (.ref l1), some (.ref l2), some (.int l3), some (.int l4), some (.int l5), some (.int l6), some (.int l7), some (.int l8), some (.int l9)] [] h =
    (if ((l3 >>> ((11 : Int32) &&& 31)) &&& (7 : Int32)) = 0 then
      (zaI r h l2 l5).bind fun v1 =>
      (zsI r h l2 l5 (-9 : Int32)).bind fun h1 =>
      if l7 = 0 then
        zev r i_L_stir 289 [some (.ref l0), some (.ref l1), some (.ref l2), some (.int l3), some (.int l4), some (.int l5), some (.int l6), some (.int (0 : Int32)), some (.int v1), some (.int l9)] [] h1
      else
        if zob r h1 l0 5 = true then
        (zcI (zev r i_X5_down 0 [some (.ref l0), some (.int l5), none] [] h1) fun v2 h2 =>
        if v1 < 0 then
          if v2 = (-4 : Int32) then
            zev r i_L_stir 289 [some (.ref l0), some (.ref l1), some (.ref l2), some (.int l3), some (.int l4), some (.int l5), some (.int l6), some (.int (1 : Int32)), some (.int v1), some (.int l9)] [] h2
          else
            zev r i_L_stir 289 [some (.ref l0), some (.ref l1), some (.ref l2), some (.int l3), some (.int l4), some (.int l5), some (.int l6), some (.int (0 : Int32)), some (.int v1), some (.int l9)] [] h2
        else
          if v2 = v1 then
            zev r i_L_stir 289 [some (.ref l0), some (.ref l1), some (.ref l2), some (.int l3), some (.int l4), some (.int l5), some (.int l6), some (.int (1 : Int32)), some (.int v1), some (.int l9)] [] h2
          else
            zev r i_L_stir 289 [some (.ref l0), some (.ref l1), some (.ref l2), some (.int l3), some (.int l4), some (.int l5), some (.int l6), some (.int (0 : Int32)), some (.int v1), some (.int l9)] [] h2)
        else none
    else
      zev r i_L_stir 289 [some (.ref l0), some (.ref l1), some (.ref l2), some (.int l3), some (.int l4), some (.int l5), some (.int l6), some (.int l7), some (.int l8), some (.int l9)] [] h) := zblk r [77, 108, 143, 188, 234, 289] 199 _ _ _ _ _
set_option maxRecDepth 100000 in
theorem E_L_stir_289a (r : zE) (h : zH) (l0 : Nat) (l1 : Nat) (l2 : Nat) (l3 : Int32) (l4 : Int32) (l5 : Int32) (l6 : Int32) (l7 : Int32) (l8 : Int32) (l9 : Int32) : zev r i_L_stir 289 [some (.ref l0), some (.ref l1), some (.ref l2), some (.int l3), some (.int l4), some (.int l5), some (.int l6), some (.int l7), some (.int l8), some (.int l9)] [] h =
    (zcI (zev r i_L_low 0 [some (.int (l3 >>> ((14 : Int32) &&& 31))), some (.int (9 : Int32))] [] h) fun v1 h1 =>
    (zaI r h1 l2 ((6 : Int32) + l5)).bind fun v2 =>
    (zsI r h1 l2 ((6 : Int32) + l5) ((1 : Int32) + v1)).bind fun h2 =>
    if l7 = 0 then
      some (some (.int (0 : Int32)), h2)
    else
      if zob r h2 l0 5 = true then
      (zcI (zev r i_X5_line 0 [some (.ref l0), some (.int l5), some (.int ((1 : Int32) + v1)), none] [] h2) fun v3 h3 =>
      if v2 = ((1 : Int32) + v1) then
        if v3 = (-4 : Int32) then
          some (some (.int (1 : Int32)), h3)
        else
          some (some (.int (0 : Int32)), h3)
      else
        if v3 = v2 then
          some (some (.int (1 : Int32)), h3)
        else
          some (some (.int (0 : Int32)), h3))
      else none) := zblk r [77, 108, 143, 188, 234, 289] 199 _ _ _ _ _
set_option maxRecDepth 100000 in
theorem E_L_told_0 (r : zE) (h : zH) (a1 : Nat) (i2 : Int32) (i3 : Int32) : zev r i_L_told 0 [some (.ref a1), some (.int i2), some (.int i3)] [] h =
    (if zob r h a1 5 = true then
    (zcI (zev r i_X5_man 0 [some (.ref a1), some (.int i2), some (.int i3)] [] h) fun v1 h1 =>
    if v1 = (1 : Int32) then
      if zob r h1 a1 5 = true then
      (zcI (zev r i_X5_asked 0 [some (.ref a1)] [] h1) fun v2 h2 =>
      some (some (.int v2), h2))
      else none
    else
      some (some (.int (-99 : Int32)), h1))
    else none) := zblk r [] 14 _ _ _ _ _
end
section
/-! stretches of code as equations (printed by wip/p48/gen20.py) -/
set_option maxRecDepth 100000 in
theorem E_L_law_0 (r : zE) (h : zH) (a1 : Nat) : zev r i_L_law 0 [some (.ref a1), none, none, none, none, none, none, none, none, none, none, none, none, none, none, none, none, none, none, none, none, none, none, none, none, none, none, none, none] [] h =
    (zcV (zev r i_X5_init 0 [some (.ref (r.1 + h.length)), none] [] (h ++ [.inr (.inr (5, [.null, .null, .null, .null, .null, .null, .null, .int 0, .long 0, .long 0, .int 0, .null]))] : zH)) fun h1 =>
    zcI (zev r i_L_deck 0 [some (.ref (r.1 + h.length)), some (.ref a1), some (.ref (r.1 + h1.length)), some (.ref (r.1 + (h1 ++ [.inl (27, fun _ => 0)] : zH).length)), none, none, none, none] [] (h1 ++ [.inl (27, fun _ => 0)] ++ [.inl (18, fun _ => 0)] : zH)) fun v1 h2 =>
    if v1 = 0 then
      some (some (.int (0 : Int32)), h2)
    else
      (zaI r h2 (r.1 + h1.length) (1 : Int32)).bind fun v2 =>
      if zob r h2 (r.1 + h.length) 5 = true then
      (zcL (zev r i_X5_digest 0 [some (.ref (r.1 + h.length)), none, none, none, none] [] h2) fun v3 h3 =>
      if zob r h3 (r.1 + h.length) 5 = true then
      (zcI (zev r i_X5_keep 0 [some (.ref (r.1 + h.length)), some (.int (0 : Int32))] [] h3) fun v4 h4 =>
      if v4 = 0 then
        zev r i_L_law 54 [some (.ref a1), some (.ref (r.1 + h.length)), some (.ref (r.1 + h1.length)), some (.ref (r.1 + (h1 ++ [.inl (27, fun _ => 0)] : zH).length)), some (.int v2), some (.long v3), none, some (.int (0 : Int32)), none, none, none, none, none, none, none, none, none, none, none, none, none, none, none, none, none, none, none, none, none] [] h4
      else
        some (some (.int (0 : Int32)), h4))
      else none)
      else none) := zblk r [54, 90, 118, 202, 220, 295, 341, 371, 435, 471, 512, 588, 677, 760, 816, 864, 877, 941, 1001, 1032, 1068, 1126, 1150, 1381, 1521, 1558, 1584, 1628, 1685, 1830, 2021] 1087 _ _ _ _ _
set_option maxRecDepth 100000 in
theorem E_L_law_54 (r : zE) (h : zH) (l0 : Nat) (l1 : Nat) (l2 : Nat) (l3 : Nat) (l4 : Int32) (l5 : Int64) (l7 : Int32) : zev r i_L_law 54 [some (.ref l0), some (.ref l1), some (.ref l2), some (.ref l3), some (.int l4), some (.long l5), none, some (.int l7), none, none, none, none, none, none, none, none, none, none, none, none, none, none, none, none, none, none, none, none, none] [] h =
    (if l7 < (3 : Int32) then
      zcI (zev r i_L_cell 0 [some (.ref l0), some (.int ((7 : Int32) + l7))] [] h) fun v1 h1 =>
      zcI (zev r i_L_stir 0 [some (.ref l1), some (.ref l2), some (.ref l3), some (.int v1), none, none, none, none, none, none] [] h1) fun v2 h2 =>
      if v2 = 0 then
        some (some (.int (0 : Int32)), h2)
      else
        zev r i_L_law 90 [some (.ref l0), some (.ref l1), some (.ref l2), some (.ref l3), some (.int l4), some (.long l5), none, some (.int l7), some (.int v1), some (.int (0 : Int32)), some (.int (0 : Int32)), none, none, none, none, none, none, none, none, none, none, none, none, none, none, none, none, none, none] [] h2
    else
      if zob r h l1 5 = true then
      (zcI (zev r i_X5_count 0 [some (.ref l1), some (.int (2 : Int32))] [] h) fun v3 h3 =>
      if zob r h3 l1 5 = true then
      (zcI (zev r i_X5_keep 0 [some (.ref l1), some (.int (1 : Int32))] [] h3) fun v4 h4 =>
      if v4 = v3 then
        if zob r h4 l1 5 = true then
        (zcI (zev r i_X5_on 0 [some (.ref l1), some (.int (0 : Int32))] [] h4) fun v5 h5 =>
        if v5 = 0 then
          if zob r h5 l1 5 = true then
          (zcI (zev r i_X5_count 0 [some (.ref l1), some (.int (3 : Int32))] [] h5) fun v6 h6 =>
          if v6 = l4 then
            if zob r h6 l1 5 = true then
            (zcI (zev r i_X5_on 0 [some (.ref l1), some (.int (1 : Int32))] [] h6) fun v7 h7 =>
            if v7 = v3 then
              if zob r h7 l1 5 = true then
              (zcI (zev r i_X5_undo 0 [some (.ref l1), some (.int (0 : Int32)), none] [] h7) fun v8 h8 =>
              if v8 = v3 then
                if zob r h8 l1 5 = true then
                (zcI (zev r i_X5_count 0 [some (.ref l1), some (.int (4 : Int32))] [] h8) fun v9 h9 =>
                if v9 = 0 then
                  zev r i_L_law 2021 [some (.ref l0), some (.ref l1), some (.ref l2), some (.ref l3), some (.int l4), some (.long l5), none, some (.int v3), some (.int (1 : Int32)), none, none, none, none, none, none, none, none, none, none, none, none, none, none, none, none, none, none, none, none] [] h9
                else
                  some (some (.int (0 : Int32)), h9))
                else none
              else
                some (some (.int (0 : Int32)), h8))
              else none
            else
              some (some (.int (0 : Int32)), h7))
            else none
          else
            some (some (.int (0 : Int32)), h6))
          else none
        else
          some (some (.int (0 : Int32)), h5))
        else none
      else
        some (some (.int (0 : Int32)), h4))
      else none)
      else none) := zblk r [54, 90, 118, 202, 220, 295, 341, 371, 435, 471, 512, 588, 677, 760, 816, 864, 877, 941, 1001, 1032, 1068, 1126, 1150, 1381, 1521, 1558, 1584, 1628, 1685, 1830, 2021] 1087 _ _ _ _ _
set_option maxRecDepth 100000 in
theorem E_L_law_90 (r : zE) (h : zH) (l0 : Nat) (l1 : Nat) (l2 : Nat) (l3 : Nat) (l4 : Int32) (l5 : Int64) (l7 : Int32) (l8 : Int32) (l9 : Int32) (l10 : Int32) : zev r i_L_law 90 [some (.ref l0), some (.ref l1), some (.ref l2), some (.ref l3), some (.int l4), some (.long l5), none, some (.int l7), some (.int l8), some (.int l9), some (.int l10), none, none, none, none, none, none, none, none, none, none, none, none, none, none, none, none, none, none] [] h =
    ((zaI r h l2 (0 : Int32)).bind fun v1 =>
    if l10 < v1 then
      if zob r h l1 5 = true then
      (zcI (zev r i_X5_hook 0 [some (.ref l1), some (.int l10), some (.int (1 : Int32))] [] h) fun v2 h1 =>
      if v2 = (1 : Int32) then
        if zob r h1 l1 5 = true then
        (zcI (zev r i_X5_asked 0 [some (.ref l1)] [] h1) fun v3 h2 =>
        zev r i_L_law 118 [some (.ref l0), some (.ref l1), some (.ref l2), some (.ref l3), some (.int l4), some (.long l5), none, some (.int l7), some (.int l8), some (.int l9), some (.int l10), none, none, none, none, none, none, none, none, none, none, none, none, none, none, none, none, none, none] [.int v3] h2)
        else none
      else
        zev r i_L_law 118 [some (.ref l0), some (.ref l1), some (.ref l2), some (.ref l3), some (.int l4), some (.long l5), none, some (.int l7), some (.int l8), some (.int l9), some (.int l10), none, none, none, none, none, none, none, none, none, none, none, none, none, none, none, none, none, none] [.int (-99 : Int32)] h1)
      else none
    else
      if zob r h l1 5 = true then
      (zcI (zev r i_X5_count 0 [some (.ref l1), some (.int (2 : Int32))] [] h) fun v4 h3 =>
      if zob r h3 l1 5 = true then
      (zcL (zev r i_X5_digest 0 [some (.ref l1), none, none, none, none] [] h3) fun v5 h4 =>
      if zob r h4 l1 5 = true then
      (zcI (zev r i_X5_count 0 [some (.ref l1), some (.int (3 : Int32))] [] h4) fun v6 h5 =>
      if l9 = v6 then
        zev r i_L_law 202 [some (.ref l0), some (.ref l1), some (.ref l2), some (.ref l3), some (.int l4), some (.long l5), none, some (.int l7), some (.int l8), some (.int l9), some (.int v4), some (.long v5), none, some (.int (0 : Int32)), none, none, none, none, none, none, none, none, none, none, none, none, none, none, none] [] h5
      else
        some (some (.int (0 : Int32)), h5))
      else none)
      else none)
      else none) := zblk r [54, 90, 118, 202, 220, 295, 341, 371, 435, 471, 512, 588, 677, 760, 816, 864, 877, 941, 1001, 1032, 1068, 1126, 1150, 1381, 1521, 1558, 1584, 1628, 1685, 1830, 2021] 1087 _ _ _ _ _
set_option maxRecDepth 100000 in
theorem E_L_law_2021 (r : zE) (h : zH) (l0 : Nat) (l1 : Nat) (l2 : Nat) (l3 : Nat) (l4 : Int32) (l5 : Int64) (l7 : Int32) (l8 : Int32) : zev r i_L_law 2021 [some (.ref l0), some (.ref l1), some (.ref l2), some (.ref l3), some (.int l4), some (.long l5), none, some (.int l7), some (.int l8), none, none, none, none, none, none, none, none, none, none, none, none, none, none, none, none, none, none, none, none] [] h =
    (if l8 < (6 : Int32) then
      if zob r h l1 5 = true then
      (zcI (zev r i_X5_tear 0 [some (.ref l1), some (.int l8), none] [] h) fun v1 h1 =>
      if v1 = (1 : Int32) then
        zev r i_L_law 2021 [some (.ref l0), some (.ref l1), some (.ref l2), some (.ref l3), some (.int l4), some (.long l5), none, some (.int l7), some (.int (l8 + (1 : Int32))), none, none, none, none, none, none, none, none, none, none, none, none, none, none, none, none, none, none, none, none] [] h1
      else
        some (some (.int (0 : Int32)), h1))
      else none
    else
      if zob r h l1 5 = true then
      (zcI (zev r i_X5_deck 0 [some (.ref l1), some (.int (0 : Int32)), none, none, none] [] h) fun v2 h2 =>
      if v2 = l4 then
        if zob r h2 l1 5 = true then
        (zcL (zev r i_X5_digest 0 [some (.ref l1), none, none, none, none] [] h2) fun v3 h3 =>
        if (lg_cmp v3 l5) = 0 then
          some (some (.int (1 : Int32)), h3)
        else
          some (some (.int (0 : Int32)), h3))
        else none
      else
        some (some (.int (0 : Int32)), h2))
      else none) := zblk r [54, 90, 118, 202, 220, 295, 341, 371, 435, 471, 512, 588, 677, 760, 816, 864, 877, 941, 1001, 1032, 1068, 1126, 1150, 1381, 1521, 1558, 1584, 1628, 1685, 1830, 2021] 1087 _ _ _ _ _
set_option maxRecDepth 100000 in
theorem E_L_law_118 (r : zE) (h : zH) (l0 : Nat) (l1 : Nat) (l2 : Nat) (l3 : Nat) (l4 : Int32) (l5 : Int64) (l7 : Int32) (l8 : Int32) (l9 : Int32) (l10 : Int32) (s0 : Int32) : zev r i_L_law 118 [some (.ref l0), some (.ref l1), some (.ref l2), some (.ref l3), some (.int l4), some (.long l5), none, some (.int l7), some (.int l8), some (.int l9), some (.int l10), none, none, none, none, none, none, none, none, none, none, none, none, none, none, none, none, none, none] [.int s0] h =
    (if s0 = (-9 : Int32) then
      if s0 < 0 then
        zev r i_L_law 90 [some (.ref l0), some (.ref l1), some (.ref l2), some (.ref l3), some (.int l4), some (.long l5), none, some (.int l7), some (.int l8), some (.int (l9 + (0 : Int32))), some (.int (l10 + (1 : Int32))), none, none, none, none, none, none, none, none, none, none, none, none, none, none, none, none, none, none] [] h
      else
        zev r i_L_law 90 [some (.ref l0), some (.ref l1), some (.ref l2), some (.ref l3), some (.int l4), some (.long l5), none, some (.int l7), some (.int l8), some (.int (l9 + (1 : Int32))), some (.int (l10 + (1 : Int32))), none, none, none, none, none, none, none, none, none, none, none, none, none, none, none, none, none, none] [] h
    else
      if s0 < 0 then
        some (some (.int (0 : Int32)), h)
      else
        if s0 < l4 then
          zcI (zev r i_L_told 0 [some (.ref l1), some (.int s0), some (.int (4 : Int32))] [] h) fun v1 h1 =>
          if v1 = l10 then
            if s0 < 0 then
              zev r i_L_law 90 [some (.ref l0), some (.ref l1), some (.ref l2), some (.ref l3), some (.int l4), some (.long l5), none, some (.int l7), some (.int l8), some (.int (l9 + (0 : Int32))), some (.int (l10 + (1 : Int32))), none, none, none, none, none, none, none, none, none, none, none, none, none, none, none, none, none, none] [] h1
            else
              zev r i_L_law 90 [some (.ref l0), some (.ref l1), some (.ref l2), some (.ref l3), some (.int l4), some (.long l5), none, some (.int l7), some (.int l8), some (.int (l9 + (1 : Int32))), some (.int (l10 + (1 : Int32))), none, none, none, none, none, none, none, none, none, none, none, none, none, none, none, none, none, none] [] h1
          else
            some (some (.int (0 : Int32)), h1)
        else
          some (some (.int (0 : Int32)), h)) := zblk r [54, 90, 118, 202, 220, 295, 341, 371, 435, 471, 512, 588, 677, 760, 816, 864, 877, 941, 1001, 1032, 1068, 1126, 1150, 1381, 1521, 1558, 1584, 1628, 1685, 1830, 2021] 1087 _ _ _ _ _
set_option maxRecDepth 100000 in
theorem E_L_law_202 (r : zE) (h : zH) (l0 : Nat) (l1 : Nat) (l2 : Nat) (l3 : Nat) (l4 : Int32) (l5 : Int64) (l7 : Int32) (l8 : Int32) (l9 : Int32) (l10 : Int32) (l11 : Int64) (l13 : Int32) : zev r i_L_law 202 [some (.ref l0), some (.ref l1), some (.ref l2), some (.ref l3), some (.int l4), some (.long l5), none, some (.int l7), some (.int l8), some (.int l9), some (.int l10), some (.long l11), none, some (.int l13), none, none, none, none, none, none, none, none, none, none, none, none, none, none, none] [] h =
    (if l13 < (3 : Int32) then
      zev r i_L_law 220 [some (.ref l0), some (.ref l1), some (.ref l2), some (.ref l3), some (.int l4), some (.long l5), none, some (.int l7), some (.int l8), some (.int l9), some (.int l10), some (.long l11), none, some (.int l13), some (.int (0 : Int32)), some (.int (-1 : Int32)), some (.int (0 : Int32)), some (.int (0 : Int32)), none, none, none, none, none, none, none, none, none, none, none] [] h
    else
      zcI (zev r i_L_low 0 [some (.int (l8 >>> ((8 : Int32) &&& 31))), some (.int (3 : Int32))] [] h) fun v1 h1 =>
      if zob r h1 l1 5 = true then
      (zcI (zev r i_X5_best 0 [some (.ref l1), some (.int v1), some (.int (1 : Int32))] [] h1) fun v2 h2 =>
      if zob r h2 l1 5 = true then
      (zcI (zev r i_X5_fair 0 [some (.ref l1), some (.int v1), some (.int (2 : Int32))] [] h2) fun v3 h3 =>
      if zob r h3 l1 5 = true then
      (zcI (zev r i_X5_mixed 0 [some (.ref l1), some (.int (3 : Int32))] [] h3) fun v4 h4 =>
      if v2 < 0 then
        some (some (.int (0 : Int32)), h4)
      else
        if zob r h4 l1 5 = true then
        (zcI (zev r i_X5_judge 0 [some (.ref l1), some (.int (1 : Int32)), some (.int v1), none] [] h4) fun v5 h5 =>
        if v5 = v2 then
          if zob r h5 l1 5 = true then
          (zcI (zev r i_X5_judge 0 [some (.ref l1), some (.int (2 : Int32)), some (.int v1), none] [] h5) fun v6 h6 =>
          if v6 < v2 then
            some (some (.int (0 : Int32)), h6)
          else
            if v3 < 0 then
              some (some (.int (0 : Int32)), h6)
            else
              if v2 < v3 then
                some (some (.int (0 : Int32)), h6)
              else
                if zob r h6 l1 5 = true then
                (zcI (zev r i_X5_judge 0 [some (.ref l1), some (.int (3 : Int32)), some (.int (1 : Int32)), none] [] h6) fun v7 h7 =>
                if zob r h7 l1 5 = true then
                (zcI (zev r i_X5_judge 0 [some (.ref l1), some (.int (3 : Int32)), some (.int (2 : Int32)), none] [] h7) fun v8 h8 =>
                if (v7 + v8) = v4 then
                  if l9 = l4 then
                    if zob r h8 l1 5 = true then
                    (zcI (zev r i_X5_all 0 [some (.ref l1), some (.int v1)] [] h8) fun v9 h9 =>
                    if v9 < v2 then
                      some (some (.int (0 : Int32)), h9)
                    else
                      if zob r h9 l1 5 = true then
                      (zcI (zev r i_X5_all 0 [some (.ref l1), some (.int (1 : Int32))] [] h9) fun v10 h10 =>
                      if zob r h10 l1 5 = true then
                      (zcI (zev r i_X5_all 0 [some (.ref l1), some (.int (2 : Int32))] [] h10) fun v11 h11 =>
                      if (v10 + v11) < v4 then
                        some (some (.int (0 : Int32)), h11)
                      else
                        zev r i_L_law 1381 [some (.ref l0), some (.ref l1), some (.ref l2), some (.ref l3), some (.int l4), some (.long l5), none, some (.int l7), some (.int l8), some (.int l9), some (.int l10), some (.long l11), none, some (.int v1), some (.int v2), some (.int v3), some (.int v4), none, none, none, none, none, none, none, none, none, none, none, none] [] h11)
                      else none)
                      else none)
                    else none
                  else
                    zev r i_L_law 1381 [some (.ref l0), some (.ref l1), some (.ref l2), some (.ref l3), some (.int l4), some (.long l5), none, some (.int l7), some (.int l8), some (.int l9), some (.int l10), some (.long l11), none, some (.int v1), some (.int v2), some (.int v3), some (.int v4), none, none, none, none, none, none, none, none, none, none, none, none] [] h8
                else
                  some (some (.int (0 : Int32)), h8))
                else none)
                else none)
          else none
        else
          some (some (.int (0 : Int32)), h5))
        else none)
      else none)
      else none)
      else none) := zblk r [54, 90, 118, 202, 220, 295, 341, 371, 435, 471, 512, 588, 677, 760, 816, 864, 877, 941, 1001, 1032, 1068, 1126, 1150, 1381, 1521, 1558, 1584, 1628, 1685, 1830, 2021] 1087 _ _ _ _ _
set_option maxRecDepth 100000 in
theorem E_L_law_220 (r : zE) (h : zH) (l0 : Nat) (l1 : Nat) (l2 : Nat) (l3 : Nat) (l4 : Int32) (l5 : Int64) (l7 : Int32) (l8 : Int32) (l9 : Int32) (l10 : Int32) (l11 : Int64) (l13 : Int32) (l14 : Int32) (l15 : Int32) (l16 : Int32) (l17 : Int32) : zev r i_L_law 220 [some (.ref l0), some (.ref l1), some (.ref l2), some (.ref l3), some (.int l4), some (.long l5), none, some (.int l7), some (.int l8), some (.int l9), some (.int l10), some (.long l11), none, some (.int l13), some (.int l14), some (.int l15), some (.int l16), some (.int l17), none, none, none, none, none, none, none, none, none, none, none] [] h =
    (if l17 < l4 then
      if zob r h l1 5 = true then
      (zcI (zev r i_X5_neighbours 0 [some (.ref l1), some (.int l17), some (.int l13)] [] h) fun v1 h1 =>
      if zob r h1 l1 5 = true then
      (zcI (zev r i_X5_woken 0 [some (.ref l1), some (.int l17), some (.int l13)] [] h1) fun v2 h2 =>
      zcI (zev r i_L_told 0 [some (.ref l1), some (.int l17), some (.int (4 : Int32))] [] h2) fun v3 h3 =>
      if v3 < 0 then
        if (0 : Int32) = 0 then
          zev r i_L_law 295 [some (.ref l0), some (.ref l1), some (.ref l2), some (.ref l3), some (.int l4), some (.long l5), none, some (.int l7), some (.int l8), some (.int l9), some (.int l10), some (.long l11), none, some (.int l13), some (.int l14), some (.int l15), some (.int l16), some (.int l17), some (.int v1), some (.int v2), some (.int (0 : Int32)), none, none, none, none, none, none, none, none] [.int (0 : Int32), .int l16] h3
        else
          zev r i_L_law 295 [some (.ref l0), some (.ref l1), some (.ref l2), some (.ref l3), some (.int l4), some (.long l5), none, some (.int l7), some (.int l8), some (.int l9), some (.int l10), some (.long l11), none, some (.int l13), some (.int l14), some (.int l15), some (.int l16), some (.int l17), some (.int v1), some (.int v2), some (.int (0 : Int32)), none, none, none, none, none, none, none, none] [.int (1 : Int32), .int l16] h3
      else
        if l13 = 0 then
          if (1 : Int32) = 0 then
            zev r i_L_law 295 [some (.ref l0), some (.ref l1), some (.ref l2), some (.ref l3), some (.int l4), some (.long l5), none, some (.int l7), some (.int l8), some (.int l9), some (.int l10), some (.long l11), none, some (.int l13), some (.int l14), some (.int l15), some (.int l16), some (.int l17), some (.int v1), some (.int v2), some (.int (1 : Int32)), none, none, none, none, none, none, none, none] [.int (0 : Int32), .int l16] h3
          else
            zev r i_L_law 295 [some (.ref l0), some (.ref l1), some (.ref l2), some (.ref l3), some (.int l4), some (.long l5), none, some (.int l7), some (.int l8), some (.int l9), some (.int l10), some (.long l11), none, some (.int l13), some (.int l14), some (.int l15), some (.int l16), some (.int l17), some (.int v1), some (.int v2), some (.int (1 : Int32)), none, none, none, none, none, none, none, none] [.int (1 : Int32), .int l16] h3
        else
          zcI (zev r i_L_told 0 [some (.ref l1), some (.int l17), some (.int (2 : Int32))] [] h3) fun v4 h4 =>
          if v4 = (l13 - (1 : Int32)) then
            if (0 : Int32) = 0 then
              zev r i_L_law 295 [some (.ref l0), some (.ref l1), some (.ref l2), some (.ref l3), some (.int l4), some (.long l5), none, some (.int l7), some (.int l8), some (.int l9), some (.int l10), some (.long l11), none, some (.int l13), some (.int l14), some (.int l15), some (.int l16), some (.int l17), some (.int v1), some (.int v2), some (.int (0 : Int32)), none, none, none, none, none, none, none, none] [.int (0 : Int32), .int l16] h4
            else
              zev r i_L_law 295 [some (.ref l0), some (.ref l1), some (.ref l2), some (.ref l3), some (.int l4), some (.long l5), none, some (.int l7), some (.int l8), some (.int l9), some (.int l10), some (.long l11), none, some (.int l13), some (.int l14), some (.int l15), some (.int l16), some (.int l17), some (.int v1), some (.int v2), some (.int (0 : Int32)), none, none, none, none, none, none, none, none] [.int (1 : Int32), .int l16] h4
          else
            if (1 : Int32) = 0 then
              zev r i_L_law 295 [some (.ref l0), some (.ref l1), some (.ref l2), some (.ref l3), some (.int l4), some (.long l5), none, some (.int l7), some (.int l8), some (.int l9), some (.int l10), some (.long l11), none, some (.int l13), some (.int l14), some (.int l15), some (.int l16), some (.int l17), some (.int v1), some (.int v2), some (.int (1 : Int32)), none, none, none, none, none, none, none, none] [.int (0 : Int32), .int l16] h4
            else
              zev r i_L_law 295 [some (.ref l0), some (.ref l1), some (.ref l2), some (.ref l3), some (.int l4), some (.long l5), none, some (.int l7), some (.int l8), some (.int l9), some (.int l10), some (.long l11), none, some (.int l13), some (.int l14), some (.int l15), some (.int l16), some (.int l17), some (.int v1), some (.int v2), some (.int (1 : Int32)), none, none, none, none, none, none, none, none] [.int (1 : Int32), .int l16] h4)
      else none)
      else none
    else
      if zob r h l1 5 = true then
      (zcI (zev r i_X5_all 0 [some (.ref l1), some (.int l13)] [] h) fun v5 h5 =>
      if v5 = l14 then
        if zob r h5 l1 5 = true then
        (zcI (zev r i_X5_asked 0 [some (.ref l1)] [] h5) fun v6 h6 =>
        if v6 = l16 then
          if zob r h6 l1 5 = true then
          (zcI (zev r i_X5_worst 0 [some (.ref l1), some (.int l13), none, none, none, none] [] h6) fun v7 h7 =>
          if zob r h7 l1 5 = true then
          (zcI (zev r i_X5_asked 0 [some (.ref l1)] [] h7) fun v8 h8 =>
          if v7 < 0 then
            if 0 < l16 then
              zev r i_L_law 760 [some (.ref l0), some (.ref l1), some (.ref l2), some (.ref l3), some (.int l4), some (.long l5), none, some (.int l7), some (.int l8), some (.int l9), some (.int l10), some (.long l11), none, some (.int l13), some (.int l14), some (.int l15), some (.int l16), some (.int v7), some (.int v8), none, none, none, none, none, none, none, none, none, none] [.int (1 : Int32), .int (0 : Int32)] h8
            else
              zev r i_L_law 760 [some (.ref l0), some (.ref l1), some (.ref l2), some (.ref l3), some (.int l4), some (.long l5), none, some (.int l7), some (.int l8), some (.int l9), some (.int l10), some (.long l11), none, some (.int l13), some (.int l14), some (.int l15), some (.int l16), some (.int v7), some (.int v8), none, none, none, none, none, none, none, none, none, none] [.int (0 : Int32), .int (0 : Int32)] h8
          else
            if 0 < l16 then
              zev r i_L_law 760 [some (.ref l0), some (.ref l1), some (.ref l2), some (.ref l3), some (.int l4), some (.long l5), none, some (.int l7), some (.int l8), some (.int l9), some (.int l10), some (.long l11), none, some (.int l13), some (.int l14), some (.int l15), some (.int l16), some (.int v7), some (.int v8), none, none, none, none, none, none, none, none, none, none] [.int (1 : Int32), .int (1 : Int32)] h8
            else
              zev r i_L_law 760 [some (.ref l0), some (.ref l1), some (.ref l2), some (.ref l3), some (.int l4), some (.long l5), none, some (.int l7), some (.int l8), some (.int l9), some (.int l10), some (.long l11), none, some (.int l13), some (.int l14), some (.int l15), some (.int l16), some (.int v7), some (.int v8), none, none, none, none, none, none, none, none, none, none] [.int (0 : Int32), .int (1 : Int32)] h8)
          else none)
          else none
        else
          some (some (.int (0 : Int32)), h6))
        else none
      else
        some (some (.int (0 : Int32)), h5))
      else none) := zblk r [54, 90, 118, 202, 220, 295, 341, 371, 435, 471, 512, 588, 677, 760, 816, 864, 877, 941, 1001, 1032, 1068, 1126, 1150, 1381, 1521, 1558, 1584, 1628, 1685, 1830, 2021] 1087 _ _ _ _ _
set_option maxRecDepth 100000 in
theorem E_L_law_1381 (r : zE) (h : zH) (l0 : Nat) (l1 : Nat) (l2 : Nat) (l3 : Nat) (l4 : Int32) (l5 : Int64) (l7 : Int32) (l8 : Int32) (l9 : Int32) (l10 : Int32) (l11 : Int64) (l13 : Int32) (l14 : Int32) (l15 : Int32) (l16 : Int32) : zev r i_L_law 1381 [some (.ref l0), some (.ref l1), some (.ref l2), some (.ref l3), some (.int l4), some (.long l5), none, some (.int l7), some (.int l8), some (.int l9), some (.int l10), some (.long l11), none, some (.int l13), some (.int l14), some (.int l15), some (.int l16), none, none, none, none, none, none, none, none, none, none, none, none] [] h =
    (if zob r h l1 5 = true then
    (zcI (zev r i_X5_best 0 [some (.ref l1), some (.int (1 : Int32)), some (.int (4 : Int32))] [] h) fun v1 h1 =>
    if zob r h1 l1 5 = true then
    (zcI (zev r i_X5_best 0 [some (.ref l1), some (.int (2 : Int32)), some (.int (4 : Int32))] [] h1) fun v2 h2 =>
    if l16 < (v1 + v2) then
      some (some (.int (0 : Int32)), h2)
    else
      if zob r h2 l1 5 = true then
      (zcI (zev r i_X5_fair 0 [some (.ref l1), some (.int (1 : Int32)), some (.int (4 : Int32))] [] h2) fun v3 h3 =>
      if v1 < v3 then
        some (some (.int (0 : Int32)), h3)
      else
        if zob r h3 l1 5 = true then
        (zcI (zev r i_X5_judge 0 [some (.ref l1), some (.int (2 : Int32)), some (.int l13), none] [] h3) fun v4 h4 =>
        if v4 < l15 then
          some (some (.int (0 : Int32)), h4)
        else
          if zob r h4 l1 5 = true then
          (zcI (zev r i_X5_mid 0 [some (.ref l1), some (.int l13), none, none, none] [] h4) fun v5 h5 =>
          if v5 = (1 : Int32) then
            if zob r h5 l1 5 = true then
            (zcL (zev r i_X5_upper 0 [some (.ref l1)] [] h5) fun v6 h6 =>
            if zob r h6 l1 5 = true then
            (zcL (zev r i_X5_lower 0 [some (.ref l1)] [] h6) fun v7 h7 =>
            if (lg_cmp v6 (l14.toInt64 * v7)) < 0 then
              some (some (.int (0 : Int32)), h7)
            else
              if zob r h7 l1 5 = true then
              (zcL (zev r i_X5_lower 0 [some (.ref l1)] [] h7) fun v8 h8 =>
              if (lg_cmp v8 (1 : Int64)) < 0 then
                some (some (.int (0 : Int32)), h8)
              else
                if zob r h8 l1 5 = true then
                (zcI (zev r i_X5_mates 0 [some (.ref l1), none, none] [] h8) fun v9 h9 =>
                if zob r h9 l1 5 = true then
                (zcI (zev r i_X5_asked 0 [some (.ref l1)] [] h9) fun v10 h10 =>
                if v9 < 0 then
                  some (some (.int (0 : Int32)), h10)
                else
                  if v10 < 0 then
                    some (some (.int (0 : Int32)), h10)
                  else
                    if v10 < l4 then
                      if v9 < l4 then
                        if l9 = l4 then
                          if v10 < v9 then
                            some (some (.int (0 : Int32)), h10)
                          else
                            zev r i_L_law 1521 [some (.ref l0), some (.ref l1), some (.ref l2), some (.ref l3), some (.int l4), some (.long l5), none, some (.int l7), some (.int l8), some (.int l9), some (.int l10), some (.long l11), none, some (.int l13), some (.int l14), some (.int l15), some (.int l16), some (.int v1), some (.int v2), some (.int v9), some (.int v10), none, none, none, none, none, none, none, none] [] h10
                        else
                          zev r i_L_law 1521 [some (.ref l0), some (.ref l1), some (.ref l2), some (.ref l3), some (.int l4), some (.long l5), none, some (.int l7), some (.int l8), some (.int l9), some (.int l10), some (.long l11), none, some (.int l13), some (.int l14), some (.int l15), some (.int l16), some (.int v1), some (.int v2), some (.int v9), some (.int v10), none, none, none, none, none, none, none, none] [] h10
                      else
                        some (some (.int (0 : Int32)), h10)
                    else
                      some (some (.int (0 : Int32)), h10))
                else none)
                else none)
              else none)
            else none)
            else none
          else
            some (some (.int (0 : Int32)), h5))
          else none)
        else none)
      else none)
    else none)
    else none) := zblk r [54, 90, 118, 202, 220, 295, 341, 371, 435, 471, 512, 588, 677, 760, 816, 864, 877, 941, 1001, 1032, 1068, 1126, 1150, 1381, 1521, 1558, 1584, 1628, 1685, 1830, 2021] 1087 _ _ _ _ _
set_option maxRecDepth 100000 in
theorem E_L_law_295 (r : zE) (h : zH) (l0 : Nat) (l1 : Nat) (l2 : Nat) (l3 : Nat) (l4 : Int32) (l5 : Int64) (l7 : Int32) (l8 : Int32) (l9 : Int32) (l10 : Int32) (l11 : Int64) (l13 : Int32) (l14 : Int32) (l15 : Int32) (l16 : Int32) (l17 : Int32) (l18 : Int32) (l19 : Int32) (l20 : Int32) (s0 : Int32) (s1 : Int32) : zev r i_L_law 295 [some (.ref l0), some (.ref l1), some (.ref l2), some (.ref l3), some (.int l4), some (.long l5), none, some (.int l7), some (.int l8), some (.int l9), some (.int l10), some (.long l11), none, some (.int l13), some (.int l14), some (.int l15), some (.int l16), some (.int l17), some (.int l18), some (.int l19), some (.int l20), none, none, none, none, none, none, none, none] [.int s0, .int s1] h =
    (if l20 = 0 then
      if l19 < 0 then
        some (some (.int (0 : Int32)), h)
      else
        if l20 = 0 then
          if l19 = 0 then
            zev r i_L_law 341 [some (.ref l0), some (.ref l1), some (.ref l2), some (.ref l3), some (.int l4), some (.long l5), none, some (.int l7), some (.int l8), some (.int l9), some (.int l10), some (.long l11), none, some (.int l13), some (.int (l14 + l19)), some (.int l15), some (.int (s1 + s0)), some (.int l17), some (.int l18), some (.int l19), some (.int l20), none, none, none, none, none, none, none, none] [] h
          else
            some (some (.int (0 : Int32)), h)
        else
          zev r i_L_law 341 [some (.ref l0), some (.ref l1), some (.ref l2), some (.ref l3), some (.int l4), some (.long l5), none, some (.int l7), some (.int l8), some (.int l9), some (.int l10), some (.long l11), none, some (.int l13), some (.int (l14 + l19)), some (.int l15), some (.int (s1 + s0)), some (.int l17), some (.int l18), some (.int l19), some (.int l20), none, none, none, none, none, none, none, none] [] h
    else
      if l15 < l19 then
        if l19 < 0 then
          some (some (.int (0 : Int32)), h)
        else
          if l20 = 0 then
            if l19 = 0 then
              zev r i_L_law 341 [some (.ref l0), some (.ref l1), some (.ref l2), some (.ref l3), some (.int l4), some (.long l5), none, some (.int l7), some (.int l8), some (.int l9), some (.int l10), some (.long l11), none, some (.int l13), some (.int (l14 + l19)), some (.int l19), some (.int (s1 + s0)), some (.int l17), some (.int l18), some (.int l19), some (.int l20), none, none, none, none, none, none, none, none] [] h
            else
              some (some (.int (0 : Int32)), h)
          else
            zev r i_L_law 341 [some (.ref l0), some (.ref l1), some (.ref l2), some (.ref l3), some (.int l4), some (.long l5), none, some (.int l7), some (.int l8), some (.int l9), some (.int l10), some (.long l11), none, some (.int l13), some (.int (l14 + l19)), some (.int l19), some (.int (s1 + s0)), some (.int l17), some (.int l18), some (.int l19), some (.int l20), none, none, none, none, none, none, none, none] [] h
      else
        if l19 < 0 then
          some (some (.int (0 : Int32)), h)
        else
          if l20 = 0 then
            if l19 = 0 then
              zev r i_L_law 341 [some (.ref l0), some (.ref l1), some (.ref l2), some (.ref l3), some (.int l4), some (.long l5), none, some (.int l7), some (.int l8), some (.int l9), some (.int l10), some (.long l11), none, some (.int l13), some (.int (l14 + l19)), some (.int l15), some (.int (s1 + s0)), some (.int l17), some (.int l18), some (.int l19), some (.int l20), none, none, none, none, none, none, none, none] [] h
            else
              some (some (.int (0 : Int32)), h)
          else
            zev r i_L_law 341 [some (.ref l0), some (.ref l1), some (.ref l2), some (.ref l3), some (.int l4), some (.long l5), none, some (.int l7), some (.int l8), some (.int l9), some (.int l10), some (.long l11), none, some (.int l13), some (.int (l14 + l19)), some (.int l15), some (.int (s1 + s0)), some (.int l17), some (.int l18), some (.int l19), some (.int l20), none, none, none, none, none, none, none, none] [] h) := zblk r [54, 90, 118, 202, 220, 295, 341, 371, 435, 471, 512, 588, 677, 760, 816, 864, 877, 941, 1001, 1032, 1068, 1126, 1150, 1381, 1521, 1558, 1584, 1628, 1685, 1830, 2021] 1087 _ _ _ _ _
set_option maxRecDepth 100000 in
theorem E_L_law_760 (r : zE) (h : zH) (l0 : Nat) (l1 : Nat) (l2 : Nat) (l3 : Nat) (l4 : Int32) (l5 : Int64) (l7 : Int32) (l8 : Int32) (l9 : Int32) (l10 : Int32) (l11 : Int64) (l13 : Int32) (l14 : Int32) (l15 : Int32) (l16 : Int32) (l17 : Int32) (l18 : Int32) (s0 : Int32) (s1 : Int32) : zev r i_L_law 760 [some (.ref l0), some (.ref l1), some (.ref l2), some (.ref l3), some (.int l4), some (.long l5), none, some (.int l7), some (.int l8), some (.int l9), some (.int l10), some (.long l11), none, some (.int l13), some (.int l14), some (.int l15), some (.int l16), some (.int l17), some (.int l18), none, none, none, none, none, none, none, none, none, none] [.int s0, .int s1] h =
    (if s1 = s0 then
      if l17 < 0 then
        if zob r h l1 5 = true then
        (zcI (zev r i_X5_calm 0 [some (.ref l1), some (.int l13), none] [] h) fun v1 h1 =>
        if zob r h1 l1 5 = true then
        (zcI (zev r i_X5_asked 0 [some (.ref l1)] [] h1) fun v2 h2 =>
        if v2 < 0 then
          zev r i_L_law 816 [some (.ref l0), some (.ref l1), some (.ref l2), some (.ref l3), some (.int l4), some (.long l5), none, some (.int l7), some (.int l8), some (.int l9), some (.int l10), some (.long l11), none, some (.int l13), some (.int l14), some (.int l15), some (.int l16), some (.int l17), some (.int l18), some (.int v1), some (.int v2), none, none, none, none, none, none, none, none] [.int (1 : Int32), .int v1] h2
        else
          zev r i_L_law 816 [some (.ref l0), some (.ref l1), some (.ref l2), some (.ref l3), some (.int l4), some (.long l5), none, some (.int l7), some (.int l8), some (.int l9), some (.int l10), some (.long l11), none, some (.int l13), some (.int l14), some (.int l15), some (.int l16), some (.int l17), some (.int l18), some (.int v1), some (.int v2), none, none, none, none, none, none, none, none] [.int (0 : Int32), .int v1] h2)
        else none)
        else none
      else
        if l18 = l15 then
          if zob r h l1 5 = true then
          (zcI (zev r i_X5_woken 0 [some (.ref l1), some (.int l17), some (.int l13)] [] h) fun v3 h3 =>
          if v3 = l15 then
            if zob r h3 l1 5 = true then
            (zcI (zev r i_X5_calm 0 [some (.ref l1), some (.int l13), none] [] h3) fun v4 h4 =>
            if zob r h4 l1 5 = true then
            (zcI (zev r i_X5_asked 0 [some (.ref l1)] [] h4) fun v5 h5 =>
            if v5 < 0 then
              zev r i_L_law 816 [some (.ref l0), some (.ref l1), some (.ref l2), some (.ref l3), some (.int l4), some (.long l5), none, some (.int l7), some (.int l8), some (.int l9), some (.int l10), some (.long l11), none, some (.int l13), some (.int l14), some (.int l15), some (.int l16), some (.int l17), some (.int l18), some (.int v4), some (.int v5), none, none, none, none, none, none, none, none] [.int (1 : Int32), .int v4] h5
            else
              zev r i_L_law 816 [some (.ref l0), some (.ref l1), some (.ref l2), some (.ref l3), some (.int l4), some (.long l5), none, some (.int l7), some (.int l8), some (.int l9), some (.int l10), some (.long l11), none, some (.int l13), some (.int l14), some (.int l15), some (.int l16), some (.int l17), some (.int l18), some (.int v4), some (.int v5), none, none, none, none, none, none, none, none] [.int (0 : Int32), .int v4] h5)
            else none)
            else none
          else
            some (some (.int (0 : Int32)), h3))
          else none
        else
          some (some (.int (0 : Int32)), h)
    else
      some (some (.int (0 : Int32)), h)) := zblk r [54, 90, 118, 202, 220, 295, 341, 371, 435, 471, 512, 588, 677, 760, 816, 864, 877, 941, 1001, 1032, 1068, 1126, 1150, 1381, 1521, 1558, 1584, 1628, 1685, 1830, 2021] 1087 _ _ _ _ _
set_option maxRecDepth 100000 in
theorem E_L_law_1521 (r : zE) (h : zH) (l0 : Nat) (l1 : Nat) (l2 : Nat) (l3 : Nat) (l4 : Int32) (l5 : Int64) (l7 : Int32) (l8 : Int32) (l9 : Int32) (l10 : Int32) (l11 : Int64) (l13 : Int32) (l14 : Int32) (l15 : Int32) (l16 : Int32) (l17 : Int32) (l18 : Int32) (l19 : Int32) (l20 : Int32) : zev r i_L_law 1521 [some (.ref l0), some (.ref l1), some (.ref l2), some (.ref l3), some (.int l4), some (.long l5), none, some (.int l7), some (.int l8), some (.int l9), some (.int l10), some (.long l11), none, some (.int l13), some (.int l14), some (.int l15), some (.int l16), some (.int l17), some (.int l18), some (.int l19), some (.int l20), none, none, none, none, none, none, none, none] [] h =
    (if zob r h l1 5 = true then
    (zcI (zev r i_X5_up 0 [some (.ref l1), some (.int l13), some (.int (4 : Int32)), none, none, none, none, none] [] h) fun v1 h1 =>
    if zob r h1 l1 5 = true then
    (zcI (zev r i_X5_all 0 [some (.ref l1), some (.int l13)] [] h1) fun v2 h2 =>
    if v2 < 0 then
      zev r i_L_law 1558 [some (.ref l0), some (.ref l1), some (.ref l2), some (.ref l3), some (.int l4), some (.long l5), none, some (.int l7), some (.int l8), some (.int l9), some (.int l10), some (.long l11), none, some (.int l13), some (.int l14), some (.int l15), some (.int l16), some (.int l17), some (.int l18), some (.int l19), some (.int l20), some (.int v1), some (.int (-1 : Int32)), some (.int (0 : Int32)), some (.int (-1 : Int32)), some (.int (0 : Int32)), none, none, none] [] h2
    else
      if zob r h2 l1 5 = true then
      (zcI (zev r i_X5_asked 0 [some (.ref l1)] [] h2) fun v3 h3 =>
      zev r i_L_law 1558 [some (.ref l0), some (.ref l1), some (.ref l2), some (.ref l3), some (.int l4), some (.long l5), none, some (.int l7), some (.int l8), some (.int l9), some (.int l10), some (.long l11), none, some (.int l13), some (.int l14), some (.int l15), some (.int l16), some (.int l17), some (.int l18), some (.int l19), some (.int l20), some (.int v1), some (.int v3), some (.int (0 : Int32)), some (.int (-1 : Int32)), some (.int (0 : Int32)), none, none, none] [] h3)
      else none)
    else none)
    else none) := zblk r [54, 90, 118, 202, 220, 295, 341, 371, 435, 471, 512, 588, 677, 760, 816, 864, 877, 941, 1001, 1032, 1068, 1126, 1150, 1381, 1521, 1558, 1584, 1628, 1685, 1830, 2021] 1087 _ _ _ _ _
set_option maxRecDepth 100000 in
theorem E_L_law_341 (r : zE) (h : zH) (l0 : Nat) (l1 : Nat) (l2 : Nat) (l3 : Nat) (l4 : Int32) (l5 : Int64) (l7 : Int32) (l8 : Int32) (l9 : Int32) (l10 : Int32) (l11 : Int64) (l13 : Int32) (l14 : Int32) (l15 : Int32) (l16 : Int32) (l17 : Int32) (l18 : Int32) (l19 : Int32) (l20 : Int32) : zev r i_L_law 341 [some (.ref l0), some (.ref l1), some (.ref l2), some (.ref l3), some (.int l4), some (.long l5), none, some (.int l7), some (.int l8), some (.int l9), some (.int l10), some (.long l11), none, some (.int l13), some (.int l14), some (.int l15), some (.int l16), some (.int l17), some (.int l18), some (.int l19), some (.int l20), none, none, none, none, none, none, none, none] [] h =
    (if l18 < 0 then
      some (some (.int (0 : Int32)), h)
    else
      zcI (zev r i_L_bits 0 [some (.int l18), none, none] [] h) fun v1 h1 =>
      if (2 : Int32) < v1 then
        some (some (.int (0 : Int32)), h1)
      else
        if ((l18 >>> (l17 &&& 31)) &&& (1 : Int32)) = (1 : Int32) then
          some (some (.int (0 : Int32)), h1)
        else
          zev r i_L_law 371 [some (.ref l0), some (.ref l1), some (.ref l2), some (.ref l3), some (.int l4), some (.long l5), none, some (.int l7), some (.int l8), some (.int l9), some (.int l10), some (.long l11), none, some (.int l13), some (.int l14), some (.int l15), some (.int l16), some (.int l17), some (.int l18), some (.int l19), some (.int l20), some (.int (0 : Int32)), none, none, none, none, none, none, none] [] h1) := zblk r [54, 90, 118, 202, 220, 295, 341, 371, 435, 471, 512, 588, 677, 760, 816, 864, 877, 941, 1001, 1032, 1068, 1126, 1150, 1381, 1521, 1558, 1584, 1628, 1685, 1830, 2021] 1087 _ _ _ _ _
set_option maxRecDepth 100000 in
theorem E_L_law_816 (r : zE) (h : zH) (l0 : Nat) (l1 : Nat) (l2 : Nat) (l3 : Nat) (l4 : Int32) (l5 : Int64) (l7 : Int32) (l8 : Int32) (l9 : Int32) (l10 : Int32) (l11 : Int64) (l13 : Int32) (l14 : Int32) (l15 : Int32) (l16 : Int32) (l17 : Int32) (l18 : Int32) (l19 : Int32) (l20 : Int32) (s0 : Int32) (s1 : Int32) : zev r i_L_law 816 [some (.ref l0), some (.ref l1), some (.ref l2), some (.ref l3), some (.int l4), some (.long l5), none, some (.int l7), some (.int l8), some (.int l9), some (.int l10), some (.long l11), none, some (.int l13), some (.int l14), some (.int l15), some (.int l16), some (.int l17), some (.int l18), some (.int l19), some (.int l20), none, none, none, none, none, none, none, none] [.int s0, .int s1] h =
    (if s1 = s0 then
      if l20 < 0 then
        zev r i_L_law 864 [some (.ref l0), some (.ref l1), some (.ref l2), some (.ref l3), some (.int l4), some (.long l5), none, some (.int l7), some (.int l8), some (.int l9), some (.int l10), some (.long l11), none, some (.int l13), some (.int l14), some (.int l15), some (.int l16), some (.int l17), some (.int l18), some (.int l19), some (.int l20), some (.int (0 : Int32)), none, none, none, none, none, none, none] [] h
      else
        if (6 : Int32) = 0 then none else
        if (6 : Int32) = 0 then none else
        if zob r h l1 5 = true then
        (zcI (zev r i_X5_gain 0 [some (.ref l1), some (.int (l20 / (6 : Int32))), some (.int (l20 - l20 / (6 : Int32) * (6 : Int32))), some (.int l13)] [] h) fun v1 h1 =>
        if v1 < (-900 : Int32) then
          some (some (.int (0 : Int32)), h1)
        else
          if (6 : Int32) = 0 then none else
          if (6 : Int32) = 0 then none else
          if (l20 / (6 : Int32)) < (l20 - l20 / (6 : Int32) * (6 : Int32)) then
            zev r i_L_law 864 [some (.ref l0), some (.ref l1), some (.ref l2), some (.ref l3), some (.int l4), some (.long l5), none, some (.int l7), some (.int l8), some (.int l9), some (.int l10), some (.long l11), none, some (.int l13), some (.int l14), some (.int l15), some (.int l16), some (.int l17), some (.int l18), some (.int l19), some (.int l20), some (.int (0 : Int32)), none, none, none, none, none, none, none] [] h1
          else
            some (some (.int (0 : Int32)), h1))
        else none
    else
      some (some (.int (0 : Int32)), h)) := zblk r [54, 90, 118, 202, 220, 295, 341, 371, 435, 471, 512, 588, 677, 760, 816, 864, 877, 941, 1001, 1032, 1068, 1126, 1150, 1381, 1521, 1558, 1584, 1628, 1685, 1830, 2021] 1087 _ _ _ _ _
set_option maxRecDepth 100000 in
theorem E_L_law_1558 (r : zE) (h : zH) (l0 : Nat) (l1 : Nat) (l2 : Nat) (l3 : Nat) (l4 : Int32) (l5 : Int64) (l7 : Int32) (l8 : Int32) (l9 : Int32) (l10 : Int32) (l11 : Int64) (l13 : Int32) (l14 : Int32) (l15 : Int32) (l16 : Int32) (l17 : Int32) (l18 : Int32) (l19 : Int32) (l20 : Int32) (l21 : Int32) (l22 : Int32) (l23 : Int32) (l24 : Int32) (l25 : Int32) : zev r i_L_law 1558 [some (.ref l0), some (.ref l1), some (.ref l2), some (.ref l3), some (.int l4), some (.long l5), none, some (.int l7), some (.int l8), some (.int l9), some (.int l10), some (.long l11), none, some (.int l13), some (.int l14), some (.int l15), some (.int l16), some (.int l17), some (.int l18), some (.int l19), some (.int l20), some (.int l21), some (.int l22), some (.int l23), some (.int l24), some (.int l25), none, none, none] [] h =
    (if l25 < l22 then
      if zob r h l1 5 = true then
      (zcI (zev r i_X5_at 0 [some (.ref l1), some (.int (4 : Int32)), some (.int l25), none] [] h) fun v1 h1 =>
      if v1 = (1 : Int32) then
        if zob r h1 l1 5 = true then
        (zcI (zev r i_X5_asked 0 [some (.ref l1)] [] h1) fun v2 h2 =>
        zev r i_L_law 1584 [some (.ref l0), some (.ref l1), some (.ref l2), some (.ref l3), some (.int l4), some (.long l5), none, some (.int l7), some (.int l8), some (.int l9), some (.int l10), some (.long l11), none, some (.int l13), some (.int l14), some (.int l15), some (.int l16), some (.int l17), some (.int l18), some (.int l19), some (.int l20), some (.int l21), some (.int l22), some (.int l23), some (.int l24), some (.int l25), none, none, none] [.int v2] h2)
        else none
      else
        zev r i_L_law 1584 [some (.ref l0), some (.ref l1), some (.ref l2), some (.ref l3), some (.int l4), some (.long l5), none, some (.int l7), some (.int l8), some (.int l9), some (.int l10), some (.long l11), none, some (.int l13), some (.int l14), some (.int l15), some (.int l16), some (.int l17), some (.int l18), some (.int l19), some (.int l20), some (.int l21), some (.int l22), some (.int l23), some (.int l24), some (.int l25), none, none, none] [.int (-1 : Int32)] h1)
      else none
    else
      if l21 < 0 then
        some (some (.int (0 : Int32)), h)
      else
        if zob r h l1 5 = true then
        (zcI (zev r i_X5_at 0 [some (.ref l1), some (.int (4 : Int32)), some (.int l22), none] [] h) fun v3 h3 =>
        if v3 = (-3 : Int32) then
          if l22 < (2 : Int32) then
            if l21 = 0 then
              zev r i_L_law 1685 [some (.ref l0), some (.ref l1), some (.ref l2), some (.ref l3), some (.int l4), some (.long l5), none, some (.int l7), some (.int l8), some (.int l9), some (.int l10), some (.long l11), none, some (.int l13), some (.int l14), some (.int l15), some (.int l16), some (.int l17), some (.int l18), some (.int l19), some (.int l20), some (.int l21), some (.int l22), some (.int l23), some (.int l24), some (.int l25), none, none, none] [] h3
            else
              some (some (.int (0 : Int32)), h3)
          else
            zev r i_L_law 1685 [some (.ref l0), some (.ref l1), some (.ref l2), some (.ref l3), some (.int l4), some (.long l5), none, some (.int l7), some (.int l8), some (.int l9), some (.int l10), some (.long l11), none, some (.int l13), some (.int l14), some (.int l15), some (.int l16), some (.int l17), some (.int l18), some (.int l19), some (.int l20), some (.int l21), some (.int l22), some (.int l23), some (.int l24), some (.int l25), none, none, none] [] h3
        else
          some (some (.int (0 : Int32)), h3))
        else none) := zblk r [54, 90, 118, 202, 220, 295, 341, 371, 435, 471, 512, 588, 677, 760, 816, 864, 877, 941, 1001, 1032, 1068, 1126, 1150, 1381, 1521, 1558, 1584, 1628, 1685, 1830, 2021] 1087 _ _ _ _ _
set_option maxRecDepth 100000 in
theorem E_L_law_371 (r : zE) (h : zH) (l0 : Nat) (l1 : Nat) (l2 : Nat) (l3 : Nat) (l4 : Int32) (l5 : Int64) (l7 : Int32) (l8 : Int32) (l9 : Int32) (l10 : Int32) (l11 : Int64) (l13 : Int32) (l14 : Int32) (l15 : Int32) (l16 : Int32) (l17 : Int32) (l18 : Int32) (l19 : Int32) (l20 : Int32) (l21 : Int32) : zev r i_L_law 371 [some (.ref l0), some (.ref l1), some (.ref l2), some (.ref l3), some (.int l4), some (.long l5), none, some (.int l7), some (.int l8), some (.int l9), some (.int l10), some (.long l11), none, some (.int l13), some (.int l14), some (.int l15), some (.int l16), some (.int l17), some (.int l18), some (.int l19), some (.int l20), some (.int l21), none, none, none, none, none, none, none] [] h =
    (if l21 < l4 then
      if l20 = 0 then
        zev r i_L_law 471 [some (.ref l0), some (.ref l1), some (.ref l2), some (.ref l3), some (.int l4), some (.long l5), none, some (.int l7), some (.int l8), some (.int l9), some (.int l10), some (.long l11), none, some (.int l13), some (.int l14), some (.int l15), some (.int l16), some (.int l17), some (.int l18), some (.int l19), some (.int l20), some (.int l21), none, none, none, none, none, none, none] [] h
      else
        zcI (zev r i_L_told 0 [some (.ref l1), some (.int l21), some (.int (4 : Int32))] [] h) fun v1 h1 =>
        if v1 < 0 then
          if ((l18 >>> (l21 &&& 31)) &&& (1 : Int32)) = (1 : Int32) then
            if (0 : Int32) = 0 then
              some (some (.int (0 : Int32)), h1)
            else
              zev r i_L_law 435 [some (.ref l0), some (.ref l1), some (.ref l2), some (.ref l3), some (.int l4), some (.long l5), none, some (.int l7), some (.int l8), some (.int l9), some (.int l10), some (.long l11), none, some (.int l13), some (.int l14), some (.int l15), some (.int l16), some (.int l17), some (.int l18), some (.int l19), some (.int l20), some (.int l21), some (.int (0 : Int32)), none, none, none, none, none, none] [] h1
          else
            zev r i_L_law 435 [some (.ref l0), some (.ref l1), some (.ref l2), some (.ref l3), some (.int l4), some (.long l5), none, some (.int l7), some (.int l8), some (.int l9), some (.int l10), some (.long l11), none, some (.int l13), some (.int l14), some (.int l15), some (.int l16), some (.int l17), some (.int l18), some (.int l19), some (.int l20), some (.int l21), some (.int (0 : Int32)), none, none, none, none, none, none] [] h1
        else
          if l13 = 0 then
            if ((l18 >>> (l21 &&& 31)) &&& (1 : Int32)) = (1 : Int32) then
              if (1 : Int32) = 0 then
                some (some (.int (0 : Int32)), h1)
              else
                zev r i_L_law 435 [some (.ref l0), some (.ref l1), some (.ref l2), some (.ref l3), some (.int l4), some (.long l5), none, some (.int l7), some (.int l8), some (.int l9), some (.int l10), some (.long l11), none, some (.int l13), some (.int l14), some (.int l15), some (.int l16), some (.int l17), some (.int l18), some (.int l19), some (.int l20), some (.int l21), some (.int (1 : Int32)), none, none, none, none, none, none] [] h1
            else
              zev r i_L_law 435 [some (.ref l0), some (.ref l1), some (.ref l2), some (.ref l3), some (.int l4), some (.long l5), none, some (.int l7), some (.int l8), some (.int l9), some (.int l10), some (.long l11), none, some (.int l13), some (.int l14), some (.int l15), some (.int l16), some (.int l17), some (.int l18), some (.int l19), some (.int l20), some (.int l21), some (.int (1 : Int32)), none, none, none, none, none, none] [] h1
          else
            zcI (zev r i_L_told 0 [some (.ref l1), some (.int l21), some (.int (2 : Int32))] [] h1) fun v2 h2 =>
            if v2 = (l13 - (1 : Int32)) then
              if ((l18 >>> (l21 &&& 31)) &&& (1 : Int32)) = (1 : Int32) then
                if (0 : Int32) = 0 then
                  some (some (.int (0 : Int32)), h2)
                else
                  zev r i_L_law 435 [some (.ref l0), some (.ref l1), some (.ref l2), some (.ref l3), some (.int l4), some (.long l5), none, some (.int l7), some (.int l8), some (.int l9), some (.int l10), some (.long l11), none, some (.int l13), some (.int l14), some (.int l15), some (.int l16), some (.int l17), some (.int l18), some (.int l19), some (.int l20), some (.int l21), some (.int (0 : Int32)), none, none, none, none, none, none] [] h2
              else
                zev r i_L_law 435 [some (.ref l0), some (.ref l1), some (.ref l2), some (.ref l3), some (.int l4), some (.long l5), none, some (.int l7), some (.int l8), some (.int l9), some (.int l10), some (.long l11), none, some (.int l13), some (.int l14), some (.int l15), some (.int l16), some (.int l17), some (.int l18), some (.int l19), some (.int l20), some (.int l21), some (.int (0 : Int32)), none, none, none, none, none, none] [] h2
            else
              if ((l18 >>> (l21 &&& 31)) &&& (1 : Int32)) = (1 : Int32) then
                if (1 : Int32) = 0 then
                  some (some (.int (0 : Int32)), h2)
                else
                  zev r i_L_law 435 [some (.ref l0), some (.ref l1), some (.ref l2), some (.ref l3), some (.int l4), some (.long l5), none, some (.int l7), some (.int l8), some (.int l9), some (.int l10), some (.long l11), none, some (.int l13), some (.int l14), some (.int l15), some (.int l16), some (.int l17), some (.int l18), some (.int l19), some (.int l20), some (.int l21), some (.int (1 : Int32)), none, none, none, none, none, none] [] h2
              else
                zev r i_L_law 435 [some (.ref l0), some (.ref l1), some (.ref l2), some (.ref l3), some (.int l4), some (.long l5), none, some (.int l7), some (.int l8), some (.int l9), some (.int l10), some (.long l11), none, some (.int l13), some (.int l14), some (.int l15), some (.int l16), some (.int l17), some (.int l18), some (.int l19), some (.int l20), some (.int l21), some (.int (1 : Int32)), none, none, none, none, none, none] [] h2
    else
      zev r i_L_law 471 [some (.ref l0), some (.ref l1), some (.ref l2), some (.ref l3), some (.int l4), some (.long l5), none, some (.int l7), some (.int l8), some (.int l9), some (.int l10), some (.long l11), none, some (.int l13), some (.int l14), some (.int l15), some (.int l16), some (.int l17), some (.int l18), some (.int l19), some (.int l20), some (.int l21), none, none, none, none, none, none, none] [] h) := zblk r [54, 90, 118, 202, 220, 295, 341, 371, 435, 471, 512, 588, 677, 760, 816, 864, 877, 941, 1001, 1032, 1068, 1126, 1150, 1381, 1521, 1558, 1584, 1628, 1685, 1830, 2021] 1087 _ _ _ _ _
set_option maxRecDepth 100000 in
theorem E_L_law_864 (r : zE) (h : zH) (l0 : Nat) (l1 : Nat) (l2 : Nat) (l3 : Nat) (l4 : Int32) (l5 : Int64) (l7 : Int32) (l8 : Int32) (l9 : Int32) (l10 : Int32) (l11 : Int64) (l13 : Int32) (l14 : Int32) (l15 : Int32) (l16 : Int32) (l17 : Int32) (l18 : Int32) (l19 : Int32) (l20 : Int32) (l21 : Int32) : zev r i_L_law 864 [some (.ref l0), some (.ref l1), some (.ref l2), some (.ref l3), some (.int l4), some (.long l5), none, some (.int l7), some (.int l8), some (.int l9), some (.int l10), some (.long l11), none, some (.int l13), some (.int l14), some (.int l15), some (.int l16), some (.int l17), some (.int l18), some (.int l19), some (.int l20), some (.int l21), none, none, none, none, none, none, none] [] h =
    (if l21 < l4 then
      zev r i_L_law 877 [some (.ref l0), some (.ref l1), some (.ref l2), some (.ref l3), some (.int l4), some (.long l5), none, some (.int l7), some (.int l8), some (.int l9), some (.int l10), some (.long l11), none, some (.int l13), some (.int l14), some (.int l15), some (.int l16), some (.int l17), some (.int l18), some (.int l19), some (.int l20), some (.int l21), some (.int (l21 + (1 : Int32))), none, none, none, none, none, none] [] h
    else
      if zob r h l1 5 = true then
      (zcI (zev r i_X5_count 0 [some (.ref l1), some (.int (4 : Int32))] [] h) fun v1 h1 =>
      if zob r h1 l1 5 = true then
      (zcI (zev r i_X5_night 0 [some (.ref l1), some (.int l13)] [] h1) fun v2 h2 =>
      if v2 < 0 then
        some (some (.int (0 : Int32)), h2)
      else
        if l14 < v2 then
          some (some (.int (0 : Int32)), h2)
        else
          if zob r h2 l1 5 = true then
          (zcI (zev r i_X5_count 0 [some (.ref l1), some (.int (4 : Int32))] [] h2) fun v3 h3 =>
          if v3 = (v1 + v2) then
            if zob r h3 l1 5 = true then
            (zcI (zev r i_X5_undo 0 [some (.ref l1), some (.int l10), none] [] h3) fun v4 h4 =>
            if v4 = (1 : Int32) then
              if zob r h4 l1 5 = true then
              (zcL (zev r i_X5_digest 0 [some (.ref l1), none, none, none, none] [] h4) fun v5 h5 =>
              if (lg_cmp v5 l11) = 0 then
                zev r i_L_law 202 [some (.ref l0), some (.ref l1), some (.ref l2), some (.ref l3), some (.int l4), some (.long l5), none, some (.int l7), some (.int l8), some (.int l9), some (.int l10), some (.long l11), none, some (.int (l13 + (1 : Int32))), none, none, none, none, none, none, none, none, none, none, none, none, none, none, none] [] h5
              else
                some (some (.int (0 : Int32)), h5))
              else none
            else
              some (some (.int (0 : Int32)), h4))
            else none
          else
            some (some (.int (0 : Int32)), h3))
          else none)
      else none)
      else none) := zblk r [54, 90, 118, 202, 220, 295, 341, 371, 435, 471, 512, 588, 677, 760, 816, 864, 877, 941, 1001, 1032, 1068, 1126, 1150, 1381, 1521, 1558, 1584, 1628, 1685, 1830, 2021] 1087 _ _ _ _ _
set_option maxRecDepth 100000 in
theorem E_L_law_1584 (r : zE) (h : zH) (l0 : Nat) (l1 : Nat) (l2 : Nat) (l3 : Nat) (l4 : Int32) (l5 : Int64) (l7 : Int32) (l8 : Int32) (l9 : Int32) (l10 : Int32) (l11 : Int64) (l13 : Int32) (l14 : Int32) (l15 : Int32) (l16 : Int32) (l17 : Int32) (l18 : Int32) (l19 : Int32) (l20 : Int32) (l21 : Int32) (l22 : Int32) (l23 : Int32) (l24 : Int32) (l25 : Int32) (s0 : Int32) : zev r i_L_law 1584 [some (.ref l0), some (.ref l1), some (.ref l2), some (.ref l3), some (.int l4), some (.long l5), none, some (.int l7), some (.int l8), some (.int l9), some (.int l10), some (.long l11), none, some (.int l13), some (.int l14), some (.int l15), some (.int l16), some (.int l17), some (.int l18), some (.int l19), some (.int l20), some (.int l21), some (.int l22), some (.int l23), some (.int l24), some (.int l25), none, none, none] [.int s0] h =
    (if s0 < 0 then
      some (some (.int (0 : Int32)), h)
    else
      if s0 < l4 then
        if ((l23 >>> (s0 &&& 31)) &&& (1 : Int32)) = (1 : Int32) then
          some (some (.int (0 : Int32)), h)
        else
          if 0 < l13 then
            zcI (zev r i_L_told 0 [some (.ref l1), some (.int s0), some (.int (2 : Int32))] [] h) fun v1 h1 =>
            if v1 = (l13 - (1 : Int32)) then
              some (some (.int (0 : Int32)), h1)
            else
              zev r i_L_law 1628 [some (.ref l0), some (.ref l1), some (.ref l2), some (.ref l3), some (.int l4), some (.long l5), none, some (.int l7), some (.int l8), some (.int l9), some (.int l10), some (.long l11), none, some (.int l13), some (.int l14), some (.int l15), some (.int l16), some (.int l17), some (.int l18), some (.int l19), some (.int l20), some (.int l21), some (.int l22), some (.int l23), some (.int s0), some (.int l25), none, none, none] [] h1
          else
            zev r i_L_law 1628 [some (.ref l0), some (.ref l1), some (.ref l2), some (.ref l3), some (.int l4), some (.long l5), none, some (.int l7), some (.int l8), some (.int l9), some (.int l10), some (.long l11), none, some (.int l13), some (.int l14), some (.int l15), some (.int l16), some (.int l17), some (.int l18), some (.int l19), some (.int l20), some (.int l21), some (.int l22), some (.int l23), some (.int s0), some (.int l25), none, none, none] [] h
      else
        some (some (.int (0 : Int32)), h)) := zblk r [54, 90, 118, 202, 220, 295, 341, 371, 435, 471, 512, 588, 677, 760, 816, 864, 877, 941, 1001, 1032, 1068, 1126, 1150, 1381, 1521, 1558, 1584, 1628, 1685, 1830, 2021] 1087 _ _ _ _ _
set_option maxRecDepth 100000 in
theorem E_L_law_1685 (r : zE) (h : zH) (l0 : Nat) (l1 : Nat) (l2 : Nat) (l3 : Nat) (l4 : Int32) (l5 : Int64) (l7 : Int32) (l8 : Int32) (l9 : Int32) (l10 : Int32) (l11 : Int64) (l13 : Int32) (l14 : Int32) (l15 : Int32) (l16 : Int32) (l17 : Int32) (l18 : Int32) (l19 : Int32) (l20 : Int32) (l21 : Int32) (l22 : Int32) (l23 : Int32) (l24 : Int32) (l25 : Int32) : zev r i_L_law 1685 [some (.ref l0), some (.ref l1), some (.ref l2), some (.ref l3), some (.int l4), some (.long l5), none, some (.int l7), some (.int l8), some (.int l9), some (.int l10), some (.long l11), none, some (.int l13), some (.int l14), some (.int l15), some (.int l16), some (.int l17), some (.int l18), some (.int l19), some (.int l20), some (.int l21), some (.int l22), some (.int l23), some (.int l24), some (.int l25), none, none, none] [] h =
    (if zob r h l1 5 = true then
    (zcI (zev r i_X5_row 0 [some (.ref l1), some (.int (5 : Int32)), some (.int (4 : Int32))] [] h) fun v1 h1 =>
    if v1 = (4 : Int32) then
      if zob r h1 l1 5 = true then
      (zcI (zev r i_X5_lay 0 [some (.ref l1), some (.int (5 : Int32)), some (.int (0 : Int32)), some (.int (1 : Int32)), none] [] h1) fun v2 h2 =>
      if v2 = (1 : Int32) then
        if zob r h2 l1 5 = true then
        (zcI (zev r i_X5_judge 0 [some (.ref l1), some (.int (1 : Int32)), some (.int (1 : Int32)), none] [] h2) fun v3 h3 =>
        if zob r h3 l1 5 = true then
        (zcI (zev r i_X5_lay 0 [some (.ref l1), some (.int (5 : Int32)), some (.int (1 : Int32)), some (.int v3), none] [] h3) fun v4 h4 =>
        if v4 = (1 : Int32) then
          if zob r h4 l1 5 = true then
          (zcI (zev r i_X5_lay 0 [some (.ref l1), some (.int (5 : Int32)), some (.int (2 : Int32)), some (.int (2 : Int32)), none] [] h4) fun v5 h5 =>
          if v5 = (1 : Int32) then
            if zob r h5 l1 5 = true then
            (zcI (zev r i_X5_judge 0 [some (.ref l1), some (.int (1 : Int32)), some (.int (2 : Int32)), none] [] h5) fun v6 h6 =>
            if zob r h6 l1 5 = true then
            (zcI (zev r i_X5_lay 0 [some (.ref l1), some (.int (5 : Int32)), some (.int (3 : Int32)), some (.int v6), none] [] h6) fun v7 h7 =>
            if v7 = (1 : Int32) then
              if zob r h7 l1 5 = true then
              (zcI (zev r i_X5_fits 0 [some (.ref l1), some (.int (5 : Int32)), none, none] [] h7) fun v8 h8 =>
              if v8 = (1 : Int32) then
                if zob r h8 l1 5 = true then
                (zcL (zev r i_X5_upper 0 [some (.ref l1)] [] h8) fun v9 h9 =>
                if (lg_cmp v9 (1 : Int64)) < 0 then
                  some (some (.int (0 : Int32)), h9)
                else
                  if zob r h9 l1 5 = true then
                  (zcL (zev r i_X5_lower 0 [some (.ref l1)] [] h9) fun v10 h10 =>
                  if (lg_cmp v10 (1 : Int64)) = 0 then
                    if zob r h10 l1 5 = true then
                    (zcI (zev r i_X5_asked 0 [some (.ref l1)] [] h10) fun v11 h11 =>
                    if zob r h11 l1 5 = true then
                    (zcL (zev r i_X5_upper 0 [some (.ref l1)] [] h11) fun v12 h12 =>
                    if v11 = (-9 : Int32) then
                      if (lg_cmp v12 (1 : Int64)) = 0 then
                        if v11 = (-9 : Int32) then
                          some (some (.int (0 : Int32)), h12)
                        else
                          zev r i_L_law 1830 [some (.ref l0), some (.ref l1), some (.ref l2), some (.ref l3), some (.int l4), some (.long l5), none, some (.int l7), some (.int l8), some (.int l9), some (.int l10), some (.long l11), none, some (.int l13), some (.int l14), some (.int l15), some (.int l16), some (.int l17), some (.int l18), some (.int l19), some (.int l20), some (.int l21), some (.int l22), some (.int l23), some (.int l24), some (.int v11), some (.long v12), none, none] [] h12
                      else
                        zev r i_L_law 1830 [some (.ref l0), some (.ref l1), some (.ref l2), some (.ref l3), some (.int l4), some (.long l5), none, some (.int l7), some (.int l8), some (.int l9), some (.int l10), some (.long l11), none, some (.int l13), some (.int l14), some (.int l15), some (.int l16), some (.int l17), some (.int l18), some (.int l19), some (.int l20), some (.int l21), some (.int l22), some (.int l23), some (.int l24), some (.int v11), some (.long v12), none, none] [] h12
                    else
                      if zob r h12 l1 5 = true then
                      (zcI (zev r i_X5_at 0 [some (.ref l1), some (.int (1 : Int32)), some (.int (0 : Int32)), none] [] h12) fun v13 h13 =>
                      if v13 = (1 : Int32) then
                        if zob r h13 l1 5 = true then
                        (zcI (zev r i_X5_asked 0 [some (.ref l1)] [] h13) fun v14 h14 =>
                        if v14 = v11 then
                          if (lg_cmp v12 (1 : Int64)) = 0 then
                            if v11 = (-9 : Int32) then
                              some (some (.int (0 : Int32)), h14)
                            else
                              zev r i_L_law 1830 [some (.ref l0), some (.ref l1), some (.ref l2), some (.ref l3), some (.int l4), some (.long l5), none, some (.int l7), some (.int l8), some (.int l9), some (.int l10), some (.long l11), none, some (.int l13), some (.int l14), some (.int l15), some (.int l16), some (.int l17), some (.int l18), some (.int l19), some (.int l20), some (.int l21), some (.int l22), some (.int l23), some (.int l24), some (.int v11), some (.long v12), none, none] [] h14
                          else
                            zev r i_L_law 1830 [some (.ref l0), some (.ref l1), some (.ref l2), some (.ref l3), some (.int l4), some (.long l5), none, some (.int l7), some (.int l8), some (.int l9), some (.int l10), some (.long l11), none, some (.int l13), some (.int l14), some (.int l15), some (.int l16), some (.int l17), some (.int l18), some (.int l19), some (.int l20), some (.int l21), some (.int l22), some (.int l23), some (.int l24), some (.int v11), some (.long v12), none, none] [] h14
                        else
                          some (some (.int (0 : Int32)), h14))
                        else none
                      else
                        some (some (.int (0 : Int32)), h13))
                      else none)
                    else none)
                    else none
                  else
                    some (some (.int (0 : Int32)), h10))
                  else none)
                else none
              else
                some (some (.int (0 : Int32)), h8))
              else none
            else
              some (some (.int (0 : Int32)), h7))
            else none)
            else none
          else
            some (some (.int (0 : Int32)), h5))
          else none
        else
          some (some (.int (0 : Int32)), h4))
        else none)
        else none
      else
        some (some (.int (0 : Int32)), h2))
      else none
    else
      some (some (.int (0 : Int32)), h1))
    else none) := zblk r [54, 90, 118, 202, 220, 295, 341, 371, 435, 471, 512, 588, 677, 760, 816, 864, 877, 941, 1001, 1032, 1068, 1126, 1150, 1381, 1521, 1558, 1584, 1628, 1685, 1830, 2021] 1087 _ _ _ _ _
set_option maxRecDepth 100000 in
theorem E_L_law_435 (r : zE) (h : zH) (l0 : Nat) (l1 : Nat) (l2 : Nat) (l3 : Nat) (l4 : Int32) (l5 : Int64) (l7 : Int32) (l8 : Int32) (l9 : Int32) (l10 : Int32) (l11 : Int64) (l13 : Int32) (l14 : Int32) (l15 : Int32) (l16 : Int32) (l17 : Int32) (l18 : Int32) (l19 : Int32) (l20 : Int32) (l21 : Int32) (l22 : Int32) : zev r i_L_law 435 [some (.ref l0), some (.ref l1), some (.ref l2), some (.ref l3), some (.int l4), some (.long l5), none, some (.int l7), some (.int l8), some (.int l9), some (.int l10), some (.long l11), none, some (.int l13), some (.int l14), some (.int l15), some (.int l16), some (.int l17), some (.int l18), some (.int l19), some (.int l20), some (.int l21), some (.int l22), none, none, none, none, none, none] [] h =
    (if l22 = 0 then
      zev r i_L_law 371 [some (.ref l0), some (.ref l1), some (.ref l2), some (.ref l3), some (.int l4), some (.long l5), none, some (.int l7), some (.int l8), some (.int l9), some (.int l10), some (.long l11), none, some (.int l13), some (.int l14), some (.int l15), some (.int l16), some (.int l17), some (.int l18), some (.int l19), some (.int l20), some (.int (l21 + (1 : Int32))), none, none, none, none, none, none, none] [] h
    else
      if zob r h l1 5 = true then
      (zcI (zev r i_X5_neighbours 0 [some (.ref l1), some (.int l21), some (.int l13)] [] h) fun v1 h1 =>
      if ((l18 >>> (l21 &&& 31)) &&& (1 : Int32)) = ((v1 >>> (l17 &&& 31)) &&& (1 : Int32)) then
        zev r i_L_law 371 [some (.ref l0), some (.ref l1), some (.ref l2), some (.ref l3), some (.int l4), some (.long l5), none, some (.int l7), some (.int l8), some (.int l9), some (.int l10), some (.long l11), none, some (.int l13), some (.int l14), some (.int l15), some (.int l16), some (.int l17), some (.int l18), some (.int l19), some (.int l20), some (.int (l21 + (1 : Int32))), none, none, none, none, none, none, none] [] h1
      else
        some (some (.int (0 : Int32)), h1))
      else none) := zblk r [54, 90, 118, 202, 220, 295, 341, 371, 435, 471, 512, 588, 677, 760, 816, 864, 877, 941, 1001, 1032, 1068, 1126, 1150, 1381, 1521, 1558, 1584, 1628, 1685, 1830, 2021] 1087 _ _ _ _ _
set_option maxRecDepth 100000 in
theorem E_L_law_471 (r : zE) (h : zH) (l0 : Nat) (l1 : Nat) (l2 : Nat) (l3 : Nat) (l4 : Int32) (l5 : Int64) (l7 : Int32) (l8 : Int32) (l9 : Int32) (l10 : Int32) (l11 : Int64) (l13 : Int32) (l14 : Int32) (l15 : Int32) (l16 : Int32) (l17 : Int32) (l18 : Int32) (l19 : Int32) (l20 : Int32) (l21 : Int32) : zev r i_L_law 471 [some (.ref l0), some (.ref l1), some (.ref l2), some (.ref l3), some (.int l4), some (.long l5), none, some (.int l7), some (.int l8), some (.int l9), some (.int l10), some (.long l11), none, some (.int l13), some (.int l14), some (.int l15), some (.int l16), some (.int l17), some (.int l18), some (.int l19), some (.int l20), some (.int l21), none, none, none, none, none, none, none] [] h =
    (if zob r h l1 5 = true then
    (zcI (zev r i_X5_by 0 [some (.ref l1), some (.int l17), some (.int l13), none, none, none, none, none] [] h) fun v1 h1 =>
    if zob r h1 l1 5 = true then
    (zcI (zev r i_X5_asked 0 [some (.ref l1)] [] h1) fun v2 h2 =>
    if v1 < 0 then
      if l20 = 0 then
        zev r i_L_law 512 [some (.ref l0), some (.ref l1), some (.ref l2), some (.ref l3), some (.int l4), some (.long l5), none, some (.int l7), some (.int l8), some (.int l9), some (.int l10), some (.long l11), none, some (.int l13), some (.int l14), some (.int l15), some (.int l16), some (.int l17), some (.int l18), some (.int l19), some (.int l20), some (.int v1), some (.int v2), none, none, none, none, none, none] [.int (0 : Int32), .int (0 : Int32)] h2
      else
        if l18 = 0 then
          zev r i_L_law 512 [some (.ref l0), some (.ref l1), some (.ref l2), some (.ref l3), some (.int l4), some (.long l5), none, some (.int l7), some (.int l8), some (.int l9), some (.int l10), some (.long l11), none, some (.int l13), some (.int l14), some (.int l15), some (.int l16), some (.int l17), some (.int l18), some (.int l19), some (.int l20), some (.int v1), some (.int v2), none, none, none, none, none, none] [.int (0 : Int32), .int (0 : Int32)] h2
        else
          zev r i_L_law 512 [some (.ref l0), some (.ref l1), some (.ref l2), some (.ref l3), some (.int l4), some (.long l5), none, some (.int l7), some (.int l8), some (.int l9), some (.int l10), some (.long l11), none, some (.int l13), some (.int l14), some (.int l15), some (.int l16), some (.int l17), some (.int l18), some (.int l19), some (.int l20), some (.int v1), some (.int v2), none, none, none, none, none, none] [.int (1 : Int32), .int (0 : Int32)] h2
    else
      if l20 = 0 then
        zev r i_L_law 512 [some (.ref l0), some (.ref l1), some (.ref l2), some (.ref l3), some (.int l4), some (.long l5), none, some (.int l7), some (.int l8), some (.int l9), some (.int l10), some (.long l11), none, some (.int l13), some (.int l14), some (.int l15), some (.int l16), some (.int l17), some (.int l18), some (.int l19), some (.int l20), some (.int v1), some (.int v2), none, none, none, none, none, none] [.int (0 : Int32), .int (1 : Int32)] h2
      else
        if l18 = 0 then
          zev r i_L_law 512 [some (.ref l0), some (.ref l1), some (.ref l2), some (.ref l3), some (.int l4), some (.long l5), none, some (.int l7), some (.int l8), some (.int l9), some (.int l10), some (.long l11), none, some (.int l13), some (.int l14), some (.int l15), some (.int l16), some (.int l17), some (.int l18), some (.int l19), some (.int l20), some (.int v1), some (.int v2), none, none, none, none, none, none] [.int (0 : Int32), .int (1 : Int32)] h2
        else
          zev r i_L_law 512 [some (.ref l0), some (.ref l1), some (.ref l2), some (.ref l3), some (.int l4), some (.long l5), none, some (.int l7), some (.int l8), some (.int l9), some (.int l10), some (.long l11), none, some (.int l13), some (.int l14), some (.int l15), some (.int l16), some (.int l17), some (.int l18), some (.int l19), some (.int l20), some (.int v1), some (.int v2), none, none, none, none, none, none] [.int (1 : Int32), .int (1 : Int32)] h2)
    else none)
    else none) := zblk r [54, 90, 118, 202, 220, 295, 341, 371, 435, 471, 512, 588, 677, 760, 816, 864, 877, 941, 1001, 1032, 1068, 1126, 1150, 1381, 1521, 1558, 1584, 1628, 1685, 1830, 2021] 1087 _ _ _ _ _
set_option maxRecDepth 100000 in
theorem E_L_law_877 (r : zE) (h : zH) (l0 : Nat) (l1 : Nat) (l2 : Nat) (l3 : Nat) (l4 : Int32) (l5 : Int64) (l7 : Int32) (l8 : Int32) (l9 : Int32) (l10 : Int32) (l11 : Int64) (l13 : Int32) (l14 : Int32) (l15 : Int32) (l16 : Int32) (l17 : Int32) (l18 : Int32) (l19 : Int32) (l20 : Int32) (l21 : Int32) (l22 : Int32) : zev r i_L_law 877 [some (.ref l0), some (.ref l1), some (.ref l2), some (.ref l3), some (.int l4), some (.long l5), none, some (.int l7), some (.int l8), some (.int l9), some (.int l10), some (.long l11), none, some (.int l13), some (.int l14), some (.int l15), some (.int l16), some (.int l17), some (.int l18), some (.int l19), some (.int l20), some (.int l21), some (.int l22), none, none, none, none, none, none] [] h =
    (if l22 < l4 then
      if zob r h l1 5 = true then
      (zcI (zev r i_X5_gain 0 [some (.ref l1), some (.int l21), some (.int l22), some (.int l13)] [] h) fun v1 h1 =>
      if zob r h1 l1 5 = true then
      (zcI (zev r i_X5_woken 0 [some (.ref l1), some (.int l21), some (.int l13)] [] h1) fun v2 h2 =>
      if zob r h2 l1 5 = true then
      (zcI (zev r i_X5_woken 0 [some (.ref l1), some (.int l22), some (.int l13)] [] h2) fun v3 h3 =>
      zcI (zev r i_L_told 0 [some (.ref l1), some (.int l21), some (.int (4 : Int32))] [] h3) fun v4 h4 =>
      if v4 < 0 then
        zcI (zev r i_L_told 0 [some (.ref l1), some (.int l22), some (.int (4 : Int32))] [] h4) fun v5 h5 =>
        if v5 < 0 then
          zev r i_L_law 941 [some (.ref l0), some (.ref l1), some (.ref l2), some (.ref l3), some (.int l4), some (.long l5), none, some (.int l7), some (.int l8), some (.int l9), some (.int l10), some (.long l11), none, some (.int l13), some (.int l14), some (.int l15), some (.int l16), some (.int l17), some (.int l18), some (.int l19), some (.int l20), some (.int l21), some (.int l22), some (.int v1), some (.int v2), some (.int v3), none, none, none] [.int (0 : Int32)] h5
        else
          zev r i_L_law 941 [some (.ref l0), some (.ref l1), some (.ref l2), some (.ref l3), some (.int l4), some (.long l5), none, some (.int l7), some (.int l8), some (.int l9), some (.int l10), some (.long l11), none, some (.int l13), some (.int l14), some (.int l15), some (.int l16), some (.int l17), some (.int l18), some (.int l19), some (.int l20), some (.int l21), some (.int l22), some (.int v1), some (.int v2), some (.int v3), none, none, none] [.int (1 : Int32)] h5
      else
        zev r i_L_law 941 [some (.ref l0), some (.ref l1), some (.ref l2), some (.ref l3), some (.int l4), some (.long l5), none, some (.int l7), some (.int l8), some (.int l9), some (.int l10), some (.long l11), none, some (.int l13), some (.int l14), some (.int l15), some (.int l16), some (.int l17), some (.int l18), some (.int l19), some (.int l20), some (.int l21), some (.int l22), some (.int v1), some (.int v2), some (.int v3), none, none, none] [.int (1 : Int32)] h4)
      else none)
      else none)
      else none
    else
      zev r i_L_law 864 [some (.ref l0), some (.ref l1), some (.ref l2), some (.ref l3), some (.int l4), some (.long l5), none, some (.int l7), some (.int l8), some (.int l9), some (.int l10), some (.long l11), none, some (.int l13), some (.int l14), some (.int l15), some (.int l16), some (.int l17), some (.int l18), some (.int l19), some (.int l20), some (.int (l21 + (1 : Int32))), none, none, none, none, none, none, none] [] h) := zblk r [54, 90, 118, 202, 220, 295, 341, 371, 435, 471, 512, 588, 677, 760, 816, 864, 877, 941, 1001, 1032, 1068, 1126, 1150, 1381, 1521, 1558, 1584, 1628, 1685, 1830, 2021] 1087 _ _ _ _ _
set_option maxRecDepth 100000 in
theorem E_L_law_1628 (r : zE) (h : zH) (l0 : Nat) (l1 : Nat) (l2 : Nat) (l3 : Nat) (l4 : Int32) (l5 : Int64) (l7 : Int32) (l8 : Int32) (l9 : Int32) (l10 : Int32) (l11 : Int64) (l13 : Int32) (l14 : Int32) (l15 : Int32) (l16 : Int32) (l17 : Int32) (l18 : Int32) (l19 : Int32) (l20 : Int32) (l21 : Int32) (l22 : Int32) (l23 : Int32) (l24 : Int32) (l25 : Int32) : zev r i_L_law 1628 [some (.ref l0), some (.ref l1), some (.ref l2), some (.ref l3), some (.int l4), some (.long l5), none, some (.int l7), some (.int l8), some (.int l9), some (.int l10), some (.long l11), none, some (.int l13), some (.int l14), some (.int l15), some (.int l16), some (.int l17), some (.int l18), some (.int l19), some (.int l20), some (.int l21), some (.int l22), some (.int l23), some (.int l24), some (.int l25), none, none, none] [] h =
    (zcI (zev r i_L_told 0 [some (.ref l1), some (.int l24), some (.int (4 : Int32))] [] h) fun v1 h1 =>
    if v1 < 0 then
      some (some (.int (0 : Int32)), h1)
    else
      zev r i_L_law 1558 [some (.ref l0), some (.ref l1), some (.ref l2), some (.ref l3), some (.int l4), some (.long l5), none, some (.int l7), some (.int l8), some (.int l9), some (.int l10), some (.long l11), none, some (.int l13), some (.int l14), some (.int l15), some (.int l16), some (.int l17), some (.int l18), some (.int l19), some (.int l20), some (.int l21), some (.int l22), some (.int (l23 ||| ((1 : Int32) <<< (l24 &&& 31)))), some (.int l24), some (.int (l25 + (1 : Int32))), none, none, none] [] h1) := zblk r [54, 90, 118, 202, 220, 295, 341, 371, 435, 471, 512, 588, 677, 760, 816, 864, 877, 941, 1001, 1032, 1068, 1126, 1150, 1381, 1521, 1558, 1584, 1628, 1685, 1830, 2021] 1087 _ _ _ _ _
set_option maxRecDepth 100000 in
theorem E_L_law_1830 (r : zE) (h : zH) (l0 : Nat) (l1 : Nat) (l2 : Nat) (l3 : Nat) (l4 : Int32) (l5 : Int64) (l7 : Int32) (l8 : Int32) (l9 : Int32) (l10 : Int32) (l11 : Int64) (l13 : Int32) (l14 : Int32) (l15 : Int32) (l16 : Int32) (l17 : Int32) (l18 : Int32) (l19 : Int32) (l20 : Int32) (l21 : Int32) (l22 : Int32) (l23 : Int32) (l24 : Int32) (l25 : Int32) (l26 : Int64) : zev r i_L_law 1830 [some (.ref l0), some (.ref l1), some (.ref l2), some (.ref l3), some (.int l4), some (.long l5), none, some (.int l7), some (.int l8), some (.int l9), some (.int l10), some (.long l11), none, some (.int l13), some (.int l14), some (.int l15), some (.int l16), some (.int l17), some (.int l18), some (.int l19), some (.int l20), some (.int l21), some (.int l22), some (.int l23), some (.int l24), some (.int l25), some (.long l26), none, none] [] h =
    (if zob r h l1 5 = true then
    (zcI (zev r i_X5_row 0 [some (.ref l1), some (.int (5 : Int32)), some (.int (2 : Int32))] [] h) fun v1 h1 =>
    if v1 = (2 : Int32) then
      if zob r h1 l1 5 = true then
      (zcI (zev r i_X5_lay 0 [some (.ref l1), some (.int (5 : Int32)), some (.int (0 : Int32)), some (.int (1 : Int32)), none] [] h1) fun v2 h2 =>
      if v2 = (1 : Int32) then
        if zob r h2 l1 5 = true then
        (zcI (zev r i_X5_judge 0 [some (.ref l1), some (.int (1 : Int32)), some (.int (1 : Int32)), none] [] h2) fun v3 h3 =>
        if zob r h3 l1 5 = true then
        (zcI (zev r i_X5_lay 0 [some (.ref l1), some (.int (5 : Int32)), some (.int (1 : Int32)), some (.int v3), none] [] h3) fun v4 h4 =>
        if v4 = (1 : Int32) then
          if zob r h4 l1 5 = true then
          (zcI (zev r i_X5_fits 0 [some (.ref l1), some (.int (5 : Int32)), none, none] [] h4) fun v5 h5 =>
          if v5 = (1 : Int32) then
            if zob r h5 l1 5 = true then
            (zcL (zev r i_X5_upper 0 [some (.ref l1)] [] h5) fun v6 h6 =>
            if (lg_cmp v6 l26) < 0 then
              some (some (.int (0 : Int32)), h6)
            else
              if zob r h6 l1 5 = true then
              (zcI (zev r i_X5_lots 0 [some (.ref l1), some (.int (2 : Int32)), some (.int ((1 : Int32) + (l8 &&& (16777215 : Int32)))), none, none, none, none] [] h6) fun v7 h7 =>
              if v7 < 0 then
                some (some (.int (0 : Int32)), h7)
              else
                if zob r h7 l1 5 = true then
                (zcI (zev r i_X5_count 0 [some (.ref l1), some (.int (2 : Int32))] [] h7) fun v8 h8 =>
                if v8 = (l10 + (2 : Int32)) then
                  if zob r h8 l1 5 = true then
                  (zcI (zev r i_X5_undo 0 [some (.ref l1), some (.int l10), none] [] h8) fun v9 h9 =>
                  if v9 = (2 : Int32) then
                    if zob r h9 l1 5 = true then
                    (zcI (zev r i_X5_count 0 [some (.ref l1), some (.int (2 : Int32))] [] h9) fun v10 h10 =>
                    if v10 = l10 then
                      if zob r h10 l1 5 = true then
                      (zcI (zev r i_X5_count 0 [some (.ref l1), some (.int (3 : Int32))] [] h10) fun v11 h11 =>
                      if v11 = l9 then
                        zev r i_L_law 54 [some (.ref l0), some (.ref l1), some (.ref l2), some (.ref l3), some (.int l4), some (.long l5), none, some (.int (l7 + (1 : Int32))), none, none, none, none, none, none, none, none, none, none, none, none, none, none, none, none, none, none, none, none, none] [] h11
                      else
                        some (some (.int (0 : Int32)), h11))
                      else none
                    else
                      some (some (.int (0 : Int32)), h10))
                    else none
                  else
                    some (some (.int (0 : Int32)), h9))
                  else none
                else
                  some (some (.int (0 : Int32)), h8))
                else none)
              else none)
            else none
          else
            some (some (.int (0 : Int32)), h5))
          else none
        else
          some (some (.int (0 : Int32)), h4))
        else none)
        else none
      else
        some (some (.int (0 : Int32)), h2))
      else none
    else
      some (some (.int (0 : Int32)), h1))
    else none) := zblk r [54, 90, 118, 202, 220, 295, 341, 371, 435, 471, 512, 588, 677, 760, 816, 864, 877, 941, 1001, 1032, 1068, 1126, 1150, 1381, 1521, 1558, 1584, 1628, 1685, 1830, 2021] 1087 _ _ _ _ _
set_option maxRecDepth 100000 in
theorem E_L_law_512 (r : zE) (h : zH) (l0 : Nat) (l1 : Nat) (l2 : Nat) (l3 : Nat) (l4 : Int32) (l5 : Int64) (l7 : Int32) (l8 : Int32) (l9 : Int32) (l10 : Int32) (l11 : Int64) (l13 : Int32) (l14 : Int32) (l15 : Int32) (l16 : Int32) (l17 : Int32) (l18 : Int32) (l19 : Int32) (l20 : Int32) (l21 : Int32) (l22 : Int32) (s0 : Int32) (s1 : Int32) : zev r i_L_law 512 [some (.ref l0), some (.ref l1), some (.ref l2), some (.ref l3), some (.int l4), some (.long l5), none, some (.int l7), some (.int l8), some (.int l9), some (.int l10), some (.long l11), none, some (.int l13), some (.int l14), some (.int l15), some (.int l16), some (.int l17), some (.int l18), some (.int l19), some (.int l20), some (.int l21), some (.int l22), none, none, none, none, none, none] [.int s0, .int s1] h =
    (if s1 = s0 then
      if l21 < 0 then
        zev r i_L_law 588 [some (.ref l0), some (.ref l1), some (.ref l2), some (.ref l3), some (.int l4), some (.long l5), none, some (.int l7), some (.int l8), some (.int l9), some (.int l10), some (.long l11), none, some (.int l13), some (.int l14), some (.int l15), some (.int l16), some (.int l17), some (.int l18), some (.int l19), some (.int l20), some (.int l21), some (.int l22), none, none, none, none, none, none] [] h
      else
        if ((l18 >>> (l21 &&& 31)) &&& (1 : Int32)) = (1 : Int32) then
          if l22 < 0 then
            some (some (.int (0 : Int32)), h)
          else
            if zob r h l1 5 = true then
            (zcI (zev r i_X5_down 0 [some (.ref l1), some (.int l21), none] [] h) fun v1 h1 =>
            if v1 < 0 then
              some (some (.int (0 : Int32)), h1)
            else
              if zob r h1 l1 5 = true then
              (zcI (zev r i_X5_woken 0 [some (.ref l1), some (.int l17), some (.int l13)] [] h1) fun v2 h2 =>
              if v2 = (l19 - l22) then
                if zob r h2 l1 5 = true then
                (zcI (zev r i_X5_undo 0 [some (.ref l1), some (.int l10), none] [] h2) fun v3 h3 =>
                if v3 = (1 : Int32) then
                  if zob r h3 l1 5 = true then
                  (zcI (zev r i_X5_woken 0 [some (.ref l1), some (.int l17), some (.int l13)] [] h3) fun v4 h4 =>
                  if v4 = l19 then
                    zev r i_L_law 588 [some (.ref l0), some (.ref l1), some (.ref l2), some (.ref l3), some (.int l4), some (.long l5), none, some (.int l7), some (.int l8), some (.int l9), some (.int l10), some (.long l11), none, some (.int l13), some (.int l14), some (.int l15), some (.int l16), some (.int l17), some (.int l18), some (.int l19), some (.int l20), some (.int l21), some (.int l22), none, none, none, none, none, none] [] h4
                  else
                    some (some (.int (0 : Int32)), h4))
                  else none
                else
                  some (some (.int (0 : Int32)), h3))
                else none
              else
                some (some (.int (0 : Int32)), h2))
              else none)
            else none
        else
          some (some (.int (0 : Int32)), h)
    else
      some (some (.int (0 : Int32)), h)) := zblk r [54, 90, 118, 202, 220, 295, 341, 371, 435, 471, 512, 588, 677, 760, 816, 864, 877, 941, 1001, 1032, 1068, 1126, 1150, 1381, 1521, 1558, 1584, 1628, 1685, 1830, 2021] 1087 _ _ _ _ _
set_option maxRecDepth 100000 in
theorem E_L_law_941 (r : zE) (h : zH) (l0 : Nat) (l1 : Nat) (l2 : Nat) (l3 : Nat) (l4 : Int32) (l5 : Int64) (l7 : Int32) (l8 : Int32) (l9 : Int32) (l10 : Int32) (l11 : Int64) (l13 : Int32) (l14 : Int32) (l15 : Int32) (l16 : Int32) (l17 : Int32) (l18 : Int32) (l19 : Int32) (l20 : Int32) (l21 : Int32) (l22 : Int32) (l23 : Int32) (l24 : Int32) (l25 : Int32) (s0 : Int32) : zev r i_L_law 941 [some (.ref l0), some (.ref l1), some (.ref l2), some (.ref l3), some (.int l4), some (.long l5), none, some (.int l7), some (.int l8), some (.int l9), some (.int l10), some (.long l11), none, some (.int l13), some (.int l14), some (.int l15), some (.int l16), some (.int l17), some (.int l18), some (.int l19), some (.int l20), some (.int l21), some (.int l22), some (.int l23), some (.int l24), some (.int l25), none, none, none] [.int s0] h =
    (zcI (zev r i_L_told 0 [some (.ref l1), some (.int l21), some (.int (4 : Int32))] [] h) fun v1 h1 =>
    if v1 < 0 then
      zev r i_L_law 1001 [some (.ref l0), some (.ref l1), some (.ref l2), some (.ref l3), some (.int l4), some (.long l5), none, some (.int l7), some (.int l8), some (.int l9), some (.int l10), some (.long l11), none, some (.int l13), some (.int l14), some (.int l15), some (.int l16), some (.int l17), some (.int l18), some (.int l19), some (.int l20), some (.int l21), some (.int l22), some (.int l23), some (.int l24), some (.int l25), some (.int s0), none, none] [.int (0 : Int32)] h1
    else
      zcI (zev r i_L_told 0 [some (.ref l1), some (.int l22), some (.int (4 : Int32))] [] h1) fun v2 h2 =>
      if v2 < 0 then
        zev r i_L_law 1001 [some (.ref l0), some (.ref l1), some (.ref l2), some (.ref l3), some (.int l4), some (.long l5), none, some (.int l7), some (.int l8), some (.int l9), some (.int l10), some (.long l11), none, some (.int l13), some (.int l14), some (.int l15), some (.int l16), some (.int l17), some (.int l18), some (.int l19), some (.int l20), some (.int l21), some (.int l22), some (.int l23), some (.int l24), some (.int l25), some (.int s0), none, none] [.int (0 : Int32)] h2
      else
        if l13 = 0 then
          zev r i_L_law 1001 [some (.ref l0), some (.ref l1), some (.ref l2), some (.ref l3), some (.int l4), some (.long l5), none, some (.int l7), some (.int l8), some (.int l9), some (.int l10), some (.long l11), none, some (.int l13), some (.int l14), some (.int l15), some (.int l16), some (.int l17), some (.int l18), some (.int l19), some (.int l20), some (.int l21), some (.int l22), some (.int l23), some (.int l24), some (.int l25), some (.int s0), none, none] [.int (1 : Int32)] h2
        else
          zcI (zev r i_L_told 0 [some (.ref l1), some (.int l21), some (.int (2 : Int32))] [] h2) fun v3 h3 =>
          if v3 = (l13 - (1 : Int32)) then
            zev r i_L_law 1001 [some (.ref l0), some (.ref l1), some (.ref l2), some (.ref l3), some (.int l4), some (.long l5), none, some (.int l7), some (.int l8), some (.int l9), some (.int l10), some (.long l11), none, some (.int l13), some (.int l14), some (.int l15), some (.int l16), some (.int l17), some (.int l18), some (.int l19), some (.int l20), some (.int l21), some (.int l22), some (.int l23), some (.int l24), some (.int l25), some (.int s0), none, none] [.int (0 : Int32)] h3
          else
            zcI (zev r i_L_told 0 [some (.ref l1), some (.int l22), some (.int (2 : Int32))] [] h3) fun v4 h4 =>
            if v4 = (l13 - (1 : Int32)) then
              zev r i_L_law 1001 [some (.ref l0), some (.ref l1), some (.ref l2), some (.ref l3), some (.int l4), some (.long l5), none, some (.int l7), some (.int l8), some (.int l9), some (.int l10), some (.long l11), none, some (.int l13), some (.int l14), some (.int l15), some (.int l16), some (.int l17), some (.int l18), some (.int l19), some (.int l20), some (.int l21), some (.int l22), some (.int l23), some (.int l24), some (.int l25), some (.int s0), none, none] [.int (0 : Int32)] h4
            else
              zev r i_L_law 1001 [some (.ref l0), some (.ref l1), some (.ref l2), some (.ref l3), some (.int l4), some (.long l5), none, some (.int l7), some (.int l8), some (.int l9), some (.int l10), some (.long l11), none, some (.int l13), some (.int l14), some (.int l15), some (.int l16), some (.int l17), some (.int l18), some (.int l19), some (.int l20), some (.int l21), some (.int l22), some (.int l23), some (.int l24), some (.int l25), some (.int s0), none, none] [.int (1 : Int32)] h4) := zblk r [54, 90, 118, 202, 220, 295, 341, 371, 435, 471, 512, 588, 677, 760, 816, 864, 877, 941, 1001, 1032, 1068, 1126, 1150, 1381, 1521, 1558, 1584, 1628, 1685, 1830, 2021] 1087 _ _ _ _ _
set_option maxRecDepth 100000 in
theorem E_L_law_588 (r : zE) (h : zH) (l0 : Nat) (l1 : Nat) (l2 : Nat) (l3 : Nat) (l4 : Int32) (l5 : Int64) (l7 : Int32) (l8 : Int32) (l9 : Int32) (l10 : Int32) (l11 : Int64) (l13 : Int32) (l14 : Int32) (l15 : Int32) (l16 : Int32) (l17 : Int32) (l18 : Int32) (l19 : Int32) (l20 : Int32) (l21 : Int32) (l22 : Int32) : zev r i_L_law 588 [some (.ref l0), some (.ref l1), some (.ref l2), some (.ref l3), some (.int l4), some (.long l5), none, some (.int l7), some (.int l8), some (.int l9), some (.int l10), some (.long l11), none, some (.int l13), some (.int l14), some (.int l15), some (.int l16), some (.int l17), some (.int l18), some (.int l19), some (.int l20), some (.int l21), some (.int l22), none, none, none, none, none, none] [] h =
    (if zob r h l1 5 = true then
    (zcI (zev r i_X5_cut 0 [some (.ref l1), some (.int l17), some (.int l13), none, none, none, none] [] h) fun v1 h1 =>
    if zob r h1 l1 5 = true then
    (zcI (zev r i_X5_asked 0 [some (.ref l1)] [] h1) fun v2 h2 =>
    if zob r h2 l1 5 = true then
    (zcI (zev r i_X5_all 0 [some (.ref l1), some (.int l13)] [] h2) fun v3 h3 =>
    if v1 < (1 : Int32) then
      some (some (.int (0 : Int32)), h3)
    else
      if (9 : Int32) < v1 then
        some (some (.int (0 : Int32)), h3)
      else
        if v3 < v2 then
          some (some (.int (0 : Int32)), h3)
        else
          zcI (zev r i_L_told 0 [some (.ref l1), some (.int l17), some (.int (1 : Int32))] [] h3) fun v4 h4 =>
          if v1 = v4 then
            zev r i_L_law 677 [some (.ref l0), some (.ref l1), some (.ref l2), some (.ref l3), some (.int l4), some (.long l5), none, some (.int l7), some (.int l8), some (.int l9), some (.int l10), some (.long l11), none, some (.int l13), some (.int l14), some (.int l15), some (.int l16), some (.int l17), some (.int l18), some (.int l19), some (.int l20), some (.int l21), some (.int l22), some (.int v1), some (.int v2), some (.int v3), none, none, none] [] h4
          else
            if zob r h4 l1 5 = true then
            (zcI (zev r i_X5_line 0 [some (.ref l1), some (.int l17), some (.int v1), none] [] h4) fun v5 h5 =>
            if v5 < (1 : Int32) then
              some (some (.int (0 : Int32)), h5)
            else
              if zob r h5 l1 5 = true then
              (zcI (zev r i_X5_all 0 [some (.ref l1), some (.int l13)] [] h5) fun v6 h6 =>
              if v6 = v2 then
                if zob r h6 l1 5 = true then
                (zcI (zev r i_X5_undo 0 [some (.ref l1), some (.int l10), none] [] h6) fun v7 h7 =>
                if v7 = (1 : Int32) then
                  zev r i_L_law 677 [some (.ref l0), some (.ref l1), some (.ref l2), some (.ref l3), some (.int l4), some (.long l5), none, some (.int l7), some (.int l8), some (.int l9), some (.int l10), some (.long l11), none, some (.int l13), some (.int l14), some (.int l15), some (.int l16), some (.int l17), some (.int l18), some (.int l19), some (.int l20), some (.int l21), some (.int l22), some (.int v1), some (.int v2), some (.int v3), none, none, none] [] h7
                else
                  some (some (.int (0 : Int32)), h7))
                else none
              else
                some (some (.int (0 : Int32)), h6))
              else none)
            else none)
    else none)
    else none)
    else none) := zblk r [54, 90, 118, 202, 220, 295, 341, 371, 435, 471, 512, 588, 677, 760, 816, 864, 877, 941, 1001, 1032, 1068, 1126, 1150, 1381, 1521, 1558, 1584, 1628, 1685, 1830, 2021] 1087 _ _ _ _ _
set_option maxRecDepth 100000 in
theorem E_L_law_1001 (r : zE) (h : zH) (l0 : Nat) (l1 : Nat) (l2 : Nat) (l3 : Nat) (l4 : Int32) (l5 : Int64) (l7 : Int32) (l8 : Int32) (l9 : Int32) (l10 : Int32) (l11 : Int64) (l13 : Int32) (l14 : Int32) (l15 : Int32) (l16 : Int32) (l17 : Int32) (l18 : Int32) (l19 : Int32) (l20 : Int32) (l21 : Int32) (l22 : Int32) (l23 : Int32) (l24 : Int32) (l25 : Int32) (l26 : Int32) (s0 : Int32) : zev r i_L_law 1001 [some (.ref l0), some (.ref l1), some (.ref l2), some (.ref l3), some (.int l4), some (.long l5), none, some (.int l7), some (.int l8), some (.int l9), some (.int l10), some (.long l11), none, some (.int l13), some (.int l14), some (.int l15), some (.int l16), some (.int l17), some (.int l18), some (.int l19), some (.int l20), some (.int l21), some (.int l22), some (.int l23), some (.int l24), some (.int l25), some (.int l26), none, none] [.int s0] h =
    (if zob r h l1 5 = true then
    (zcI (zev r i_X5_gain 0 [some (.ref l1), some (.int l22), some (.int l21), some (.int l13)] [] h) fun v1 h1 =>
    if l23 = v1 then
      if l26 = 0 then
        if l23 = (100 : Int32) then
          zev r i_L_law 1032 [some (.ref l0), some (.ref l1), some (.ref l2), some (.ref l3), some (.int l4), some (.long l5), none, some (.int l7), some (.int l8), some (.int l9), some (.int l10), some (.long l11), none, some (.int l13), some (.int l14), some (.int l15), some (.int l16), some (.int l17), some (.int l18), some (.int l19), some (.int l20), some (.int l21), some (.int l22), some (.int l23), some (.int l24), some (.int l25), some (.int l26), some (.int s0), none] [] h1
        else
          some (some (.int (0 : Int32)), h1)
      else
        zev r i_L_law 1032 [some (.ref l0), some (.ref l1), some (.ref l2), some (.ref l3), some (.int l4), some (.long l5), none, some (.int l7), some (.int l8), some (.int l9), some (.int l10), some (.long l11), none, some (.int l13), some (.int l14), some (.int l15), some (.int l16), some (.int l17), some (.int l18), some (.int l19), some (.int l20), some (.int l21), some (.int l22), some (.int l23), some (.int l24), some (.int l25), some (.int l26), some (.int s0), none] [] h1
    else
      some (some (.int (0 : Int32)), h1))
    else none) := zblk r [54, 90, 118, 202, 220, 295, 341, 371, 435, 471, 512, 588, 677, 760, 816, 864, 877, 941, 1001, 1032, 1068, 1126, 1150, 1381, 1521, 1558, 1584, 1628, 1685, 1830, 2021] 1087 _ _ _ _ _
set_option maxRecDepth 100000 in
theorem E_L_law_677 (r : zE) (h : zH) (l0 : Nat) (l1 : Nat) (l2 : Nat) (l3 : Nat) (l4 : Int32) (l5 : Int64) (l7 : Int32) (l8 : Int32) (l9 : Int32) (l10 : Int32) (l11 : Int64) (l13 : Int32) (l14 : Int32) (l15 : Int32) (l16 : Int32) (l17 : Int32) (l18 : Int32) (l19 : Int32) (l20 : Int32) (l21 : Int32) (l22 : Int32) (l23 : Int32) (l24 : Int32) (l25 : Int32) : zev r i_L_law 677 [some (.ref l0), some (.ref l1), some (.ref l2), some (.ref l3), some (.int l4), some (.long l5), none, some (.int l7), some (.int l8), some (.int l9), some (.int l10), some (.long l11), none, some (.int l13), some (.int l14), some (.int l15), some (.int l16), some (.int l17), some (.int l18), some (.int l19), some (.int l20), some (.int l21), some (.int l22), some (.int l23), some (.int l24), some (.int l25), none, none, none] [] h =
    (zcI (zev r i_L_told 0 [some (.ref l1), some (.int l17), some (.int (1 : Int32))] [] h) fun v1 h1 =>
    if l23 = v1 then
      if l24 = l25 then
        zev r i_L_law 220 [some (.ref l0), some (.ref l1), some (.ref l2), some (.ref l3), some (.int l4), some (.long l5), none, some (.int l7), some (.int l8), some (.int l9), some (.int l10), some (.long l11), none, some (.int l13), some (.int l14), some (.int l15), some (.int l16), some (.int (l17 + (1 : Int32))), none, none, none, none, none, none, none, none, none, none, none] [] h1
      else
        some (some (.int (0 : Int32)), h1)
    else
      zev r i_L_law 220 [some (.ref l0), some (.ref l1), some (.ref l2), some (.ref l3), some (.int l4), some (.long l5), none, some (.int l7), some (.int l8), some (.int l9), some (.int l10), some (.long l11), none, some (.int l13), some (.int l14), some (.int l15), some (.int l16), some (.int (l17 + (1 : Int32))), none, none, none, none, none, none, none, none, none, none, none] [] h1) := zblk r [54, 90, 118, 202, 220, 295, 341, 371, 435, 471, 512, 588, 677, 760, 816, 864, 877, 941, 1001, 1032, 1068, 1126, 1150, 1381, 1521, 1558, 1584, 1628, 1685, 1830, 2021] 1087 _ _ _ _ _
set_option maxRecDepth 100000 in
theorem E_L_law_1032 (r : zE) (h : zH) (l0 : Nat) (l1 : Nat) (l2 : Nat) (l3 : Nat) (l4 : Int32) (l5 : Int64) (l7 : Int32) (l8 : Int32) (l9 : Int32) (l10 : Int32) (l11 : Int64) (l13 : Int32) (l14 : Int32) (l15 : Int32) (l16 : Int32) (l17 : Int32) (l18 : Int32) (l19 : Int32) (l20 : Int32) (l21 : Int32) (l22 : Int32) (l23 : Int32) (l24 : Int32) (l25 : Int32) (l26 : Int32) (l27 : Int32) : zev r i_L_law 1032 [some (.ref l0), some (.ref l1), some (.ref l2), some (.ref l3), some (.int l4), some (.long l5), none, some (.int l7), some (.int l8), some (.int l9), some (.int l10), some (.long l11), none, some (.int l13), some (.int l14), some (.int l15), some (.int l16), some (.int l17), some (.int l18), some (.int l19), some (.int l20), some (.int l21), some (.int l22), some (.int l23), some (.int l24), some (.int l25), some (.int l26), some (.int l27), none] [] h =
    (if l26 = 0 then
      zev r i_L_law 1068 [some (.ref l0), some (.ref l1), some (.ref l2), some (.ref l3), some (.int l4), some (.long l5), none, some (.int l7), some (.int l8), some (.int l9), some (.int l10), some (.long l11), none, some (.int l13), some (.int l14), some (.int l15), some (.int l16), some (.int l17), some (.int l18), some (.int l19), some (.int l20), some (.int l21), some (.int l22), some (.int l23), some (.int l24), some (.int l25), some (.int l26), some (.int l27), none] [] h
    else
      if zob r h l1 5 = true then
      (zcI (zev r i_X5_change 0 [some (.ref l1), some (.int l21), some (.int l22)] [] h) fun v1 h1 =>
      if v1 = (1 : Int32) then
        if zob r h1 l1 5 = true then
        (zcI (zev r i_X5_all 0 [some (.ref l1), some (.int l13)] [] h1) fun v2 h2 =>
        if v2 = ((l14 + (100 : Int32)) - l23) then
          zev r i_L_law 1068 [some (.ref l0), some (.ref l1), some (.ref l2), some (.ref l3), some (.int l4), some (.long l5), none, some (.int l7), some (.int l8), some (.int l9), some (.int l10), some (.long l11), none, some (.int l13), some (.int l14), some (.int l15), some (.int l16), some (.int l17), some (.int l18), some (.int l19), some (.int l20), some (.int l21), some (.int l22), some (.int l23), some (.int l24), some (.int l25), some (.int l26), some (.int l27), none] [] h2
        else
          some (some (.int (0 : Int32)), h2))
        else none
      else
        some (some (.int (0 : Int32)), h1))
      else none) := zblk r [54, 90, 118, 202, 220, 295, 341, 371, 435, 471, 512, 588, 677, 760, 816, 864, 877, 941, 1001, 1032, 1068, 1126, 1150, 1381, 1521, 1558, 1584, 1628, 1685, 1830, 2021] 1087 _ _ _ _ _
set_option maxRecDepth 100000 in
theorem E_L_law_1068 (r : zE) (h : zH) (l0 : Nat) (l1 : Nat) (l2 : Nat) (l3 : Nat) (l4 : Int32) (l5 : Int64) (l7 : Int32) (l8 : Int32) (l9 : Int32) (l10 : Int32) (l11 : Int64) (l13 : Int32) (l14 : Int32) (l15 : Int32) (l16 : Int32) (l17 : Int32) (l18 : Int32) (l19 : Int32) (l20 : Int32) (l21 : Int32) (l22 : Int32) (l23 : Int32) (l24 : Int32) (l25 : Int32) (l26 : Int32) (l27 : Int32) : zev r i_L_law 1068 [some (.ref l0), some (.ref l1), some (.ref l2), some (.ref l3), some (.int l4), some (.long l5), none, some (.int l7), some (.int l8), some (.int l9), some (.int l10), some (.long l11), none, some (.int l13), some (.int l14), some (.int l15), some (.int l16), some (.int l17), some (.int l18), some (.int l19), some (.int l20), some (.int l21), some (.int l22), some (.int l23), some (.int l24), some (.int l25), some (.int l26), some (.int l27), none] [] h =
    (if l26 = 0 then
      if l26 = 0 then
        zev r i_L_law 1126 [some (.ref l0), some (.ref l1), some (.ref l2), some (.ref l3), some (.int l4), some (.long l5), none, some (.int l7), some (.int l8), some (.int l9), some (.int l10), some (.long l11), none, some (.int l13), some (.int l14), some (.int l15), some (.int l16), some (.int l17), some (.int l18), some (.int l19), some (.int l20), some (.int l21), some (.int l22), some (.int l23), some (.int l24), some (.int l25), some (.int l26), some (.int l27), some (.int (0 : Int32))] [] h
      else
        if zob r h l1 5 = true then
        (zcI (zev r i_X5_undo 0 [some (.ref l1), some (.int l10), none] [] h) fun v1 h1 =>
        if v1 = (1 : Int32) then
          zev r i_L_law 1126 [some (.ref l0), some (.ref l1), some (.ref l2), some (.ref l3), some (.int l4), some (.long l5), none, some (.int l7), some (.int l8), some (.int l9), some (.int l10), some (.long l11), none, some (.int l13), some (.int l14), some (.int l15), some (.int l16), some (.int l17), some (.int l18), some (.int l19), some (.int l20), some (.int l21), some (.int l22), some (.int l23), some (.int l24), some (.int l25), some (.int l26), some (.int l27), some (.int (0 : Int32))] [] h1
        else
          some (some (.int (0 : Int32)), h1))
        else none
    else
      if l27 = 0 then
        if l26 = 0 then
          zev r i_L_law 1126 [some (.ref l0), some (.ref l1), some (.ref l2), some (.ref l3), some (.int l4), some (.long l5), none, some (.int l7), some (.int l8), some (.int l9), some (.int l10), some (.long l11), none, some (.int l13), some (.int l14), some (.int l15), some (.int l16), some (.int l17), some (.int l18), some (.int l19), some (.int l20), some (.int l21), some (.int l22), some (.int l23), some (.int l24), some (.int l25), some (.int l26), some (.int l27), some (.int (0 : Int32))] [] h
        else
          if zob r h l1 5 = true then
          (zcI (zev r i_X5_undo 0 [some (.ref l1), some (.int l10), none] [] h) fun v2 h2 =>
          if v2 = (1 : Int32) then
            zev r i_L_law 1126 [some (.ref l0), some (.ref l1), some (.ref l2), some (.ref l3), some (.int l4), some (.long l5), none, some (.int l7), some (.int l8), some (.int l9), some (.int l10), some (.long l11), none, some (.int l13), some (.int l14), some (.int l15), some (.int l16), some (.int l17), some (.int l18), some (.int l19), some (.int l20), some (.int l21), some (.int l22), some (.int l23), some (.int l24), some (.int l25), some (.int l26), some (.int l27), some (.int (0 : Int32))] [] h2
          else
            some (some (.int (0 : Int32)), h2))
          else none
      else
        if zob r h l1 5 = true then
        (zcI (zev r i_X5_woken 0 [some (.ref l1), some (.int l21), some (.int l13)] [] h) fun v3 h3 =>
        if v3 < l24 then
          if zob r h3 l1 5 = true then
          (zcI (zev r i_X5_woken 0 [some (.ref l1), some (.int l22), some (.int l13)] [] h3) fun v4 h4 =>
          if v4 < l25 then
            if l26 = 0 then
              zev r i_L_law 1126 [some (.ref l0), some (.ref l1), some (.ref l2), some (.ref l3), some (.int l4), some (.long l5), none, some (.int l7), some (.int l8), some (.int l9), some (.int l10), some (.long l11), none, some (.int l13), some (.int l14), some (.int l15), some (.int l16), some (.int l17), some (.int l18), some (.int l19), some (.int l20), some (.int l21), some (.int l22), some (.int l23), some (.int l24), some (.int l25), some (.int l26), some (.int l27), some (.int (1 : Int32))] [] h4
            else
              if zob r h4 l1 5 = true then
              (zcI (zev r i_X5_undo 0 [some (.ref l1), some (.int l10), none] [] h4) fun v5 h5 =>
              if v5 = (1 : Int32) then
                zev r i_L_law 1126 [some (.ref l0), some (.ref l1), some (.ref l2), some (.ref l3), some (.int l4), some (.long l5), none, some (.int l7), some (.int l8), some (.int l9), some (.int l10), some (.long l11), none, some (.int l13), some (.int l14), some (.int l15), some (.int l16), some (.int l17), some (.int l18), some (.int l19), some (.int l20), some (.int l21), some (.int l22), some (.int l23), some (.int l24), some (.int l25), some (.int l26), some (.int l27), some (.int (1 : Int32))] [] h5
              else
                some (some (.int (0 : Int32)), h5))
              else none
          else
            if l26 = 0 then
              zev r i_L_law 1126 [some (.ref l0), some (.ref l1), some (.ref l2), some (.ref l3), some (.int l4), some (.long l5), none, some (.int l7), some (.int l8), some (.int l9), some (.int l10), some (.long l11), none, some (.int l13), some (.int l14), some (.int l15), some (.int l16), some (.int l17), some (.int l18), some (.int l19), some (.int l20), some (.int l21), some (.int l22), some (.int l23), some (.int l24), some (.int l25), some (.int l26), some (.int l27), some (.int (0 : Int32))] [] h4
            else
              if zob r h4 l1 5 = true then
              (zcI (zev r i_X5_undo 0 [some (.ref l1), some (.int l10), none] [] h4) fun v6 h6 =>
              if v6 = (1 : Int32) then
                zev r i_L_law 1126 [some (.ref l0), some (.ref l1), some (.ref l2), some (.ref l3), some (.int l4), some (.long l5), none, some (.int l7), some (.int l8), some (.int l9), some (.int l10), some (.long l11), none, some (.int l13), some (.int l14), some (.int l15), some (.int l16), some (.int l17), some (.int l18), some (.int l19), some (.int l20), some (.int l21), some (.int l22), some (.int l23), some (.int l24), some (.int l25), some (.int l26), some (.int l27), some (.int (0 : Int32))] [] h6
              else
                some (some (.int (0 : Int32)), h6))
              else none)
          else none
        else
          if l26 = 0 then
            zev r i_L_law 1126 [some (.ref l0), some (.ref l1), some (.ref l2), some (.ref l3), some (.int l4), some (.long l5), none, some (.int l7), some (.int l8), some (.int l9), some (.int l10), some (.long l11), none, some (.int l13), some (.int l14), some (.int l15), some (.int l16), some (.int l17), some (.int l18), some (.int l19), some (.int l20), some (.int l21), some (.int l22), some (.int l23), some (.int l24), some (.int l25), some (.int l26), some (.int l27), some (.int (0 : Int32))] [] h3
          else
            if zob r h3 l1 5 = true then
            (zcI (zev r i_X5_undo 0 [some (.ref l1), some (.int l10), none] [] h3) fun v7 h7 =>
            if v7 = (1 : Int32) then
              zev r i_L_law 1126 [some (.ref l0), some (.ref l1), some (.ref l2), some (.ref l3), some (.int l4), some (.long l5), none, some (.int l7), some (.int l8), some (.int l9), some (.int l10), some (.long l11), none, some (.int l13), some (.int l14), some (.int l15), some (.int l16), some (.int l17), some (.int l18), some (.int l19), some (.int l20), some (.int l21), some (.int l22), some (.int l23), some (.int l24), some (.int l25), some (.int l26), some (.int l27), some (.int (0 : Int32))] [] h7
            else
              some (some (.int (0 : Int32)), h7))
            else none)
        else none) := zblk r [54, 90, 118, 202, 220, 295, 341, 371, 435, 471, 512, 588, 677, 760, 816, 864, 877, 941, 1001, 1032, 1068, 1126, 1150, 1381, 1521, 1558, 1584, 1628, 1685, 1830, 2021] 1087 _ _ _ _ _
set_option maxRecDepth 100000 in
theorem E_L_law_1126 (r : zE) (h : zH) (l0 : Nat) (l1 : Nat) (l2 : Nat) (l3 : Nat) (l4 : Int32) (l5 : Int64) (l7 : Int32) (l8 : Int32) (l9 : Int32) (l10 : Int32) (l11 : Int64) (l13 : Int32) (l14 : Int32) (l15 : Int32) (l16 : Int32) (l17 : Int32) (l18 : Int32) (l19 : Int32) (l20 : Int32) (l21 : Int32) (l22 : Int32) (l23 : Int32) (l24 : Int32) (l25 : Int32) (l26 : Int32) (l27 : Int32) (l28 : Int32) : zev r i_L_law 1126 [some (.ref l0), some (.ref l1), some (.ref l2), some (.ref l3), some (.int l4), some (.long l5), none, some (.int l7), some (.int l8), some (.int l9), some (.int l10), some (.long l11), none, some (.int l13), some (.int l14), some (.int l15), some (.int l16), some (.int l17), some (.int l18), some (.int l19), some (.int l20), some (.int l21), some (.int l22), some (.int l23), some (.int l24), some (.int l25), some (.int l26), some (.int l27), some (.int l28)] [] h =
    (if l28 = 0 then
      zev r i_L_law 1150 [some (.ref l0), some (.ref l1), some (.ref l2), some (.ref l3), some (.int l4), some (.long l5), none, some (.int l7), some (.int l8), some (.int l9), some (.int l10), some (.long l11), none, some (.int l13), some (.int l14), some (.int l15), some (.int l16), some (.int l17), some (.int l18), some (.int l19), some (.int l20), some (.int l21), some (.int l22), some (.int l23), some (.int l24), some (.int l25), some (.int l26), some (.int l27), some (.int l28)] [] h
    else
      if l19 = (1 : Int32) then
        some (some (.int (0 : Int32)), h)
      else
        if (((6 : Int32) * l21) + l22) < l20 then
          some (some (.int (0 : Int32)), h)
        else
          zev r i_L_law 1150 [some (.ref l0), some (.ref l1), some (.ref l2), some (.ref l3), some (.int l4), some (.long l5), none, some (.int l7), some (.int l8), some (.int l9), some (.int l10), some (.long l11), none, some (.int l13), some (.int l14), some (.int l15), some (.int l16), some (.int l17), some (.int l18), some (.int l19), some (.int l20), some (.int l21), some (.int l22), some (.int l23), some (.int l24), some (.int l25), some (.int l26), some (.int l27), some (.int l28)] [] h) := zblk r [54, 90, 118, 202, 220, 295, 341, 371, 435, 471, 512, 588, 677, 760, 816, 864, 877, 941, 1001, 1032, 1068, 1126, 1150, 1381, 1521, 1558, 1584, 1628, 1685, 1830, 2021] 1087 _ _ _ _ _
set_option maxRecDepth 100000 in
theorem E_L_law_1150 (r : zE) (h : zH) (l0 : Nat) (l1 : Nat) (l2 : Nat) (l3 : Nat) (l4 : Int32) (l5 : Int64) (l7 : Int32) (l8 : Int32) (l9 : Int32) (l10 : Int32) (l11 : Int64) (l13 : Int32) (l14 : Int32) (l15 : Int32) (l16 : Int32) (l17 : Int32) (l18 : Int32) (l19 : Int32) (l20 : Int32) (l21 : Int32) (l22 : Int32) (l23 : Int32) (l24 : Int32) (l25 : Int32) (l26 : Int32) (l27 : Int32) (l28 : Int32) : zev r i_L_law 1150 [some (.ref l0), some (.ref l1), some (.ref l2), some (.ref l3), some (.int l4), some (.long l5), none, some (.int l7), some (.int l8), some (.int l9), some (.int l10), some (.long l11), none, some (.int l13), some (.int l14), some (.int l15), some (.int l16), some (.int l17), some (.int l18), some (.int l19), some (.int l20), some (.int l21), some (.int l22), some (.int l23), some (.int l24), some (.int l25), some (.int l26), some (.int l27), some (.int l28)] [] h =
    (if l20 = (((6 : Int32) * l21) + l22) then
      if l28 = 0 then
        some (some (.int (0 : Int32)), h)
      else
        zev r i_L_law 877 [some (.ref l0), some (.ref l1), some (.ref l2), some (.ref l3), some (.int l4), some (.long l5), none, some (.int l7), some (.int l8), some (.int l9), some (.int l10), some (.long l11), none, some (.int l13), some (.int l14), some (.int l15), some (.int l16), some (.int l17), some (.int l18), some (.int l19), some (.int l20), some (.int l21), some (.int (l22 + (1 : Int32))), none, none, none, none, none, none] [] h
    else
      zev r i_L_law 877 [some (.ref l0), some (.ref l1), some (.ref l2), some (.ref l3), some (.int l4), some (.long l5), none, some (.int l7), some (.int l8), some (.int l9), some (.int l10), some (.long l11), none, some (.int l13), some (.int l14), some (.int l15), some (.int l16), some (.int l17), some (.int l18), some (.int l19), some (.int l20), some (.int l21), some (.int (l22 + (1 : Int32))), none, none, none, none, none, none] [] h) := zblk r [54, 90, 118, 202, 220, 295, 341, 371, 435, 471, 512, 588, 677, 760, 816, 864, 877, 941, 1001, 1032, 1068, 1126, 1150, 1381, 1521, 1558, 1584, 1628, 1685, 1830, 2021] 1087 _ _ _ _ _
end
section
/-! TOOLS: reading and writing cells, folds -/
section ZK
variable {r : zE} {h : zH} {k : Nat}
theorem zget_add : zget r h (r.1 + k) = h[k]? := by
  unfold zget
  rw [if_pos (Nat.le_add_right _ _), Nat.add_sub_cancel_left]
theorem zgI_of {ci f : Nat} {fs : List Value} {x : Int32} (e : h[k]? = some (.inr (.inr (ci, fs)))) (e2 : fs[f]? = some (.int x)) : zgI r h (r.1 + k) ci f = some x := by
  simp only [zgI, zget_add, e, if_pos, e2]
theorem zgL_of {ci f : Nat} {fs : List Value} {x : Int64} (e : h[k]? = some (.inr (.inr (ci, fs)))) (e2 : fs[f]? = some (.long x)) : zgL r h (r.1 + k) ci f = some x := by
  simp only [zgL, zget_add, e, if_pos, e2]
theorem zgR_of {ci f : Nat} {fs : List Value} {x : Nat} (e : h[k]? = some (.inr (.inr (ci, fs)))) (e2 : fs[f]? = some (.ref x)) : zgR r h (r.1 + k) ci f = some x := by
  simp only [zgR, zget_add, e, if_pos, e2]
theorem zob_of {ci : Nat} {fs : List Value} (e : h[k]? = some (.inr (.inr (ci, fs)))) : zob r h (r.1 + k) ci = true := by
  simp only [zob, zget_add, e, beq_self_eq_true]
theorem zpF_of {ci f : Nat} {fs : List Value} {v : Value} (e : h[k]? = some (.inr (.inr (ci, fs)))) (hl : f < fs.length) : zpF r h (r.1 + k) ci f v = some (h.set k (.inr (.inr (ci, fs.set f v)))) := by
  simp only [zpF, zget_add, e, true_and, if_pos hl, Nat.add_sub_cancel_left]
theorem zix_nI {j n : Nat} (hj : j < n) (hn : n < 2 ^ 31) : zix (nI j) n = some j := by
  have h1 : ¬ (nI j < 0 ∨ n ≤ (nI j).toNatClampNeg) := nI_in hj hn
  unfold zix
  rw [if_neg h1, nI_clamp (by omega)]
theorem zaI_of {n j : Nat} {f : Nat → Int32} (e : h[k]? = some (.inl (n, f))) (hj : j < n) (hn : n < 2 ^ 31) : zaI r h (r.1 + k) (nI j) = some (f j) := by
  unfold zaI
  rw [if_pos (Nat.le_add_right _ _), Nat.add_sub_cancel_left, e]
  simp only [zix_nI hj hn, Option.map_some]
theorem zaI_old {n j a : Nat} {f : Nat → Int32} (ha : ¬ r.1 ≤ a) (e : r.2.1 a = some (false, n, f)) (hj : j < n) (hn : n < 2 ^ 31) : zaI r h a (nI j) = some (f j) := by
  unfold zaI
  rw [if_neg ha, e]
  simp only [zix_nI hj hn, Option.map_some]
theorem zaC_old {n j a : Nat} {f : Nat → Int32} (ha : ¬ r.1 ≤ a) (e : r.2.1 a = some (true, n, f)) (hj : j < n) (hn : n < 2 ^ 31) : zaC r a (nI j) = some (f j) := by
  unfold zaC
  rw [if_neg ha, e]
  simp only [zix_nI hj hn, Option.map_some]
theorem zaN_old {b : Bool} {n a : Nat} {f : Nat → Int32} (ha : ¬ r.1 ≤ a) (e : r.2.1 a = some (b, n, f)) : zaN r h a = some n := by
  unfold zaN
  rw [if_neg ha, e]
theorem zaN_of {n : Nat} {f : Nat → Int32} (e : h[k]? = some (.inl (n, f))) : zaN r h (r.1 + k) = some n := by
  unfold zaN
  rw [if_pos (Nat.le_add_right _ _), Nat.add_sub_cancel_left, e]
theorem zaNq_of {n c : Nat} {f : Nat → Option Nat} (e : h[k]? = some (.inr (.inl (c, n, f)))) (hc : c = 4 ∨ c = 2) : zaN r h (r.1 + k) = some n := by
  unfold zaN
  rw [if_pos (Nat.le_add_right _ _), Nat.add_sub_cancel_left, e]
  simp only [if_pos hc]
theorem zsI_of {n j : Nat} {f : Nat → Int32} {x : Int32} (e : h[k]? = some (.inl (n, f))) (hj : j < n) (hn : n < 2 ^ 31) : zsI r h (r.1 + k) (nI j) x = some (h.set k (.inl (n, upd f j x))) := by
  simp only [zsI, zget_add, e, zix_nI hj hn, Option.map_some, Nat.add_sub_cancel_left]
theorem zaQ_of {n c j : Nat} {f : Nat → Option Nat} (e : h[k]? = some (.inr (.inl (c, n, f)))) (hc : c = 4 ∨ c = 2) (hj : j < n) (hn : n < 2 ^ 31) : zaQ r h (r.1 + k) (nI j) = some (f j) := by
  simp only [zaQ, zget_add, e, if_pos hc, zix_nI hj hn, Option.map_some]
theorem zcp_of {k1 n0 n1 sp dp n : Nat} {f g : Nat → Int32} (e0 : h[k]? = some (.inl (n0, f))) (e1 : h[k1]? = some (.inl (n1, g))) (h0 : sp + n ≤ n0) (h1 : dp + n ≤ n1) (hn0 : n0 < 2 ^ 31) (hn1 : n1 < 2 ^ 31) :
    zcp r h (r.1 + k) (nI sp) (r.1 + k1) (nI dp) (nI n) = some (h.set k1 (.inl (n1, va_cpy f g sp dp n))) := by
  have c1 := nI_clamp (n := sp) (by omega)
  have c2 := nI_clamp (n := dp) (by omega)
  have c3 := nI_clamp (n := n) (by omega)
  simp only [zcp, zget_add, e0, e1, c1, c2, c3, Nat.add_sub_cancel_left]
  rw [if_neg]
  rintro (q | q | q | q | q)
  · exact nI_pos (by omega) q
  · exact nI_pos (by omega) q
  · exact nI_pos (by omega) q
  · omega
  · omega
theorem zset_self {c : zC} : ∀ {h : zH} {k : Nat}, h[k]? = some c → h.set k c = h
  | [], _, e => by simp at e
  | a :: l, 0, e => by simp at e; subst e; rfl
  | a :: l, k + 1, e => by simp at e; rw [List.set_cons_succ, zset_self e]
end ZK
theorem zcI_some {X : Type} {x : Int32} {h : zH} {k : Int32 → zH → Option X} : zcI (some (some (.int x), h)) k = k x h := rfl
theorem zcL_some {X : Type} {x : Int64} {h : zH} {k : Int64 → zH → Option X} : zcL (some (some (.long x), h)) k = k x h := rfl
theorem zcV_some {X : Type} {h : zH} {k : zH → Option X} : zcV (some (none, h)) k = k h := rfl
theorem zcQ_ref {X : Type} {a : Nat} {h : zH} {k : Option Nat → zH → Option X} : zcQ (some (some (.ref a), h)) k = k (some a) h := rfl
theorem zcQ_null {X : Type} {h : zH} {k : Option Nat → zH → Option X} : zcQ (some (some .null, h)) k = k none h := rfl
/-- a loop's value: from place j on, n steps -/
def zfd {α : Type} (f : α → Nat → α) : Nat → Nat → α → α
  | _, 0, s => s
  | j, n + 1, s => zfd f (j + 1) n (f s j)
theorem zfd_congr {α : Type} {f g : α → Nat → α} : ∀ {j n : Nat} {s : α}, (∀ s i, j ≤ i → i < j + n → f s i = g s i) → zfd f j n s = zfd g j n s
  | _, 0, _, _ => rfl
  | j, n + 1, s, h => by
    simp only [zfd]
    rw [h s j (Nat.le_refl _) (by omega)]
    exact zfd_congr fun s i h1 h2 => h s i (by omega) (by omega)
theorem zfd_inv {α : Type} {f : α → Nat → α} (P : Nat → α → Prop) : ∀ {j n : Nat} {s : α}, P j s → (∀ s i, j ≤ i → i < j + n → P i s → P (i + 1) (f s i)) → P (j + n) (zfd f j n s)
  | _, 0, _, h, _ => h
  | j, n + 1, s, h, hs => by
    simp only [zfd]
    have := zfd_inv P (j := j + 1) (n := n) (s := f s j) (hs s j (Nat.le_refl _) (by omega) h) (fun s i h1 h2 => hs s i (by omega) (by omega))
    rwa [show j + 1 + n = j + (n + 1) by omega] at this
theorem zfd_succ {α : Type} {f : α → Nat → α} : ∀ {j n : Nat} {s : α}, zfd f j (n + 1) s = f (zfd f j n s) (j + n)
  | _, 0, _ => rfl
  | j, n + 1, s => by
    rw [zfd, zfd_succ, zfd]
    congr 1
    omega
end
section
/-! THE HEAP AS IT ALWAYS LOOKS (printed by wip/p48/gen25.py) -/
/-- how one hangs: hooks, holders, lines, tired -/
abbrev zBr : Type := (Nat → Int32) × (Nat → Int32) × (Nat → Int32) × (Nat → Int32)
def zrf (b n : Nat) : Nat → Option Nat := fun j => if j < n then some (b + 2 * j) else none
def zmk (r : zE) (c0 c1 c2 : Nat) (I : Nat → Int32) (J : Nat → Int64) (Q : Nat → Nat → Int32) (N A : zBr) (Ga Va : Nat → Int32) (t : zH) : zH := [
  .inr (.inr (5, [.ref (r.1 + 1), .ref (r.1 + 2), .ref (r.1 + c0), .ref (r.1 + 9), .ref (r.1 + 14), .ref (r.1 + 19), .ref (r.1 + 21), .int (I 0), .long (J 0), .long (J 1), .int (I 1), .ref (r.1 + 22)])),
  .inr (.inl (4, 6, zrf (r.1 + 23) 6)),
  .inr (.inl (4, 4, zrf (r.1 + 35) 4)),
  .inr (.inr (1, [.int 0, .int 0, .ref (r.1 + 4), .ref (r.1 + 5), .ref (r.1 + 6), .ref (r.1 + 7), .ref (r.1 + 8)])),
  .inl (7, fun _ => 0),
  .inl (6, fun _ => 0),
  .inl (6, fun _ => 0),
  .inl (6, fun _ => 0),
  .inl (6, fun _ => 0),
  .inr (.inr (0, [.ref (r.1 + c1), .ref (r.1 + 10), .ref (r.1 + 11), .ref (r.1 + 12), .ref (r.1 + 13)])),
  .inl (6, N.1),
  .inl (7, N.2.1),
  .inl (6, N.2.2.1),
  .inl (6, N.2.2.2),
  .inr (.inr (0, [.ref (r.1 + c2), .ref (r.1 + 15), .ref (r.1 + 16), .ref (r.1 + 17), .ref (r.1 + 18)])),
  .inl (6, A.1),
  .inl (7, A.2.1),
  .inl (6, A.2.2.1),
  .inl (6, A.2.2.2),
  .inr (.inr (2, [.ref (r.1 + 20), .int (I 2)])),
  .inl (1098, Q 9),
  .inr (.inl (2, 3, zrf (r.1 + 43) 3)),
  .inl (6, Q 0),
  .inr (.inr (4, [.ref (r.1 + 24), .int (I 6)])),
  .inl (60, Q 13),
  .inr (.inr (4, [.ref (r.1 + 26), .int (I 7)])),
  .inl (60, Q 14),
  .inr (.inr (4, [.ref (r.1 + 28), .int (I 8)])),
  .inl (60, Q 15),
  .inr (.inr (4, [.ref (r.1 + 30), .int (I 9)])),
  .inl (60, Q 16),
  .inr (.inr (4, [.ref (r.1 + 32), .int (I 10)])),
  .inl (60, Q 17),
  .inr (.inr (4, [.ref (r.1 + 34), .int (I 11)])),
  .inl (60, Q 18),
  .inr (.inr (4, [.ref (r.1 + 36), .int (I 12)])),
  .inl (60, Q 19),
  .inr (.inr (4, [.ref (r.1 + 38), .int (I 13)])),
  .inl (60, Q 20),
  .inr (.inr (4, [.ref (r.1 + 40), .int (I 14)])),
  .inl (60, Q 21),
  .inr (.inr (4, [.ref (r.1 + 42), .int (I 15)])),
  .inl (60, Q 22),
  .inr (.inr (2, [.ref (r.1 + 44), .int (I 3)])),
  .inl (1098, Q 10),
  .inr (.inr (2, [.ref (r.1 + 46), .int (I 4)])),
  .inl (1098, Q 11),
  .inr (.inr (2, [.ref (r.1 + 48), .int (I 5)])),
  .inl (1098, Q 12),
  .inl (27, Ga),
  .inl (18, Va)] ++ t
section ZMK
variable {r : zE} {c0 c1 c2 : Nat} {I : Nat → Int32} {J : Nat → Int64} {Q : Nat → Nat → Int32} {N A : zBr} {Ga Va : Nat → Int32} {t : zH}
theorem mc_0 : (zmk r c0 c1 c2 I J Q N A Ga Va t)[0]? = some (.inr (.inr (5, [.ref (r.1 + 1), .ref (r.1 + 2), .ref (r.1 + c0), .ref (r.1 + 9), .ref (r.1 + 14), .ref (r.1 + 19), .ref (r.1 + 21), .int (I 0), .long (J 0), .long (J 1), .int (I 1), .ref (r.1 + 22)]))) := rfl
theorem mo_0 : zob r (zmk r c0 c1 c2 I J Q N A Ga Va t) (r.1 + 0) 5 = true := zob_of mc_0
theorem mg_0_0 : zgR r (zmk r c0 c1 c2 I J Q N A Ga Va t) (r.1 + 0) 5 0 = some (r.1 + 1) := zgR_of mc_0 rfl
theorem mg_0_1 : zgR r (zmk r c0 c1 c2 I J Q N A Ga Va t) (r.1 + 0) 5 1 = some (r.1 + 2) := zgR_of mc_0 rfl
theorem mg_0_2 : zgR r (zmk r c0 c1 c2 I J Q N A Ga Va t) (r.1 + 0) 5 2 = some (r.1 + c0) := zgR_of mc_0 rfl
theorem mp_0_2 (v : Nat) : zpF r (zmk r c0 c1 c2 I J Q N A Ga Va t) (r.1 + 0) 5 2 (.ref (r.1 + v)) = some (zmk r v c1 c2 I J Q N A Ga Va t) := (zpF_of mc_0 (Nat.le_of_ble_eq_true rfl)).trans rfl
theorem mg_0_3 : zgR r (zmk r c0 c1 c2 I J Q N A Ga Va t) (r.1 + 0) 5 3 = some (r.1 + 9) := zgR_of mc_0 rfl
theorem mg_0_4 : zgR r (zmk r c0 c1 c2 I J Q N A Ga Va t) (r.1 + 0) 5 4 = some (r.1 + 14) := zgR_of mc_0 rfl
theorem mg_0_5 : zgR r (zmk r c0 c1 c2 I J Q N A Ga Va t) (r.1 + 0) 5 5 = some (r.1 + 19) := zgR_of mc_0 rfl
theorem mg_0_6 : zgR r (zmk r c0 c1 c2 I J Q N A Ga Va t) (r.1 + 0) 5 6 = some (r.1 + 21) := zgR_of mc_0 rfl
theorem mg_0_7 : zgI r (zmk r c0 c1 c2 I J Q N A Ga Va t) (r.1 + 0) 5 7 = some (I 0) := zgI_of mc_0 rfl
theorem mp_0_7 (v : Int32) : zpF r (zmk r c0 c1 c2 I J Q N A Ga Va t) (r.1 + 0) 5 7 (.int v) = some (zmk r c0 c1 c2 (va_up I 0 v) J Q N A Ga Va t) := (zpF_of mc_0 (Nat.le_of_ble_eq_true rfl)).trans rfl
theorem mg_0_8 : zgL r (zmk r c0 c1 c2 I J Q N A Ga Va t) (r.1 + 0) 5 8 = some (J 0) := zgL_of mc_0 rfl
theorem mp_0_8 (v : Int64) : zpF r (zmk r c0 c1 c2 I J Q N A Ga Va t) (r.1 + 0) 5 8 (.long v) = some (zmk r c0 c1 c2 I (va_up J 0 v) Q N A Ga Va t) := (zpF_of mc_0 (Nat.le_of_ble_eq_true rfl)).trans rfl
theorem mg_0_9 : zgL r (zmk r c0 c1 c2 I J Q N A Ga Va t) (r.1 + 0) 5 9 = some (J 1) := zgL_of mc_0 rfl
theorem mp_0_9 (v : Int64) : zpF r (zmk r c0 c1 c2 I J Q N A Ga Va t) (r.1 + 0) 5 9 (.long v) = some (zmk r c0 c1 c2 I (va_up J 1 v) Q N A Ga Va t) := (zpF_of mc_0 (Nat.le_of_ble_eq_true rfl)).trans rfl
theorem mg_0_10 : zgI r (zmk r c0 c1 c2 I J Q N A Ga Va t) (r.1 + 0) 5 10 = some (I 1) := zgI_of mc_0 rfl
theorem mp_0_10 (v : Int32) : zpF r (zmk r c0 c1 c2 I J Q N A Ga Va t) (r.1 + 0) 5 10 (.int v) = some (zmk r c0 c1 c2 (va_up I 1 v) J Q N A Ga Va t) := (zpF_of mc_0 (Nat.le_of_ble_eq_true rfl)).trans rfl
theorem mg_0_11 : zgR r (zmk r c0 c1 c2 I J Q N A Ga Va t) (r.1 + 0) 5 11 = some (r.1 + 22) := zgR_of mc_0 rfl
theorem mc_1 : (zmk r c0 c1 c2 I J Q N A Ga Va t)[1]? = some (.inr (.inl (4, 6, zrf (r.1 + 23) 6))) := rfl
theorem mq_1 {j : Nat} (hj : j < 6) : zaQ r (zmk r c0 c1 c2 I J Q N A Ga Va t) (r.1 + 1) (nI j) = some (some (r.1 + 23 + 2 * j)) := (zaQ_of mc_1 (by decide) hj (by omega)).trans (by unfold zrf; rw [if_pos hj])
theorem mn_1 : zaN r (zmk r c0 c1 c2 I J Q N A Ga Va t) (r.1 + 1) = some 6 := zaNq_of mc_1 (by decide)
theorem mc_2 : (zmk r c0 c1 c2 I J Q N A Ga Va t)[2]? = some (.inr (.inl (4, 4, zrf (r.1 + 35) 4))) := rfl
theorem mq_2 {j : Nat} (hj : j < 4) : zaQ r (zmk r c0 c1 c2 I J Q N A Ga Va t) (r.1 + 2) (nI j) = some (some (r.1 + 35 + 2 * j)) := (zaQ_of mc_2 (by decide) hj (by omega)).trans (by unfold zrf; rw [if_pos hj])
theorem mn_2 : zaN r (zmk r c0 c1 c2 I J Q N A Ga Va t) (r.1 + 2) = some 4 := zaNq_of mc_2 (by decide)
theorem mc_3 : (zmk r c0 c1 c2 I J Q N A Ga Va t)[3]? = some (.inr (.inr (1, [.int 0, .int 0, .ref (r.1 + 4), .ref (r.1 + 5), .ref (r.1 + 6), .ref (r.1 + 7), .ref (r.1 + 8)]))) := rfl
theorem mo_3 : zob r (zmk r c0 c1 c2 I J Q N A Ga Va t) (r.1 + 3) 1 = true := zob_of mc_3
theorem mg_3_0 : zgI r (zmk r c0 c1 c2 I J Q N A Ga Va t) (r.1 + 3) 1 0 = some (0) := zgI_of mc_3 rfl
theorem mg_3_1 : zgI r (zmk r c0 c1 c2 I J Q N A Ga Va t) (r.1 + 3) 1 1 = some (0) := zgI_of mc_3 rfl
theorem mg_3_2 : zgR r (zmk r c0 c1 c2 I J Q N A Ga Va t) (r.1 + 3) 1 2 = some (r.1 + 4) := zgR_of mc_3 rfl
theorem mg_3_3 : zgR r (zmk r c0 c1 c2 I J Q N A Ga Va t) (r.1 + 3) 1 3 = some (r.1 + 5) := zgR_of mc_3 rfl
theorem mg_3_4 : zgR r (zmk r c0 c1 c2 I J Q N A Ga Va t) (r.1 + 3) 1 4 = some (r.1 + 6) := zgR_of mc_3 rfl
theorem mg_3_5 : zgR r (zmk r c0 c1 c2 I J Q N A Ga Va t) (r.1 + 3) 1 5 = some (r.1 + 7) := zgR_of mc_3 rfl
theorem mg_3_6 : zgR r (zmk r c0 c1 c2 I J Q N A Ga Va t) (r.1 + 3) 1 6 = some (r.1 + 8) := zgR_of mc_3 rfl
theorem mc_4 : (zmk r c0 c1 c2 I J Q N A Ga Va t)[4]? = some (.inl (7, fun _ => 0)) := rfl
theorem mc_5 : (zmk r c0 c1 c2 I J Q N A Ga Va t)[5]? = some (.inl (6, fun _ => 0)) := rfl
theorem mc_6 : (zmk r c0 c1 c2 I J Q N A Ga Va t)[6]? = some (.inl (6, fun _ => 0)) := rfl
theorem mc_7 : (zmk r c0 c1 c2 I J Q N A Ga Va t)[7]? = some (.inl (6, fun _ => 0)) := rfl
theorem mc_8 : (zmk r c0 c1 c2 I J Q N A Ga Va t)[8]? = some (.inl (6, fun _ => 0)) := rfl
theorem mc_9 : (zmk r c0 c1 c2 I J Q N A Ga Va t)[9]? = some (.inr (.inr (0, [.ref (r.1 + c1), .ref (r.1 + 10), .ref (r.1 + 11), .ref (r.1 + 12), .ref (r.1 + 13)]))) := rfl
theorem mo_9 : zob r (zmk r c0 c1 c2 I J Q N A Ga Va t) (r.1 + 9) 0 = true := zob_of mc_9
theorem mg_9_0 : zgR r (zmk r c0 c1 c2 I J Q N A Ga Va t) (r.1 + 9) 0 0 = some (r.1 + c1) := zgR_of mc_9 rfl
theorem mp_9_0 (v : Nat) : zpF r (zmk r c0 c1 c2 I J Q N A Ga Va t) (r.1 + 9) 0 0 (.ref (r.1 + v)) = some (zmk r c0 v c2 I J Q N A Ga Va t) := (zpF_of mc_9 (Nat.le_of_ble_eq_true rfl)).trans rfl
theorem mg_9_1 : zgR r (zmk r c0 c1 c2 I J Q N A Ga Va t) (r.1 + 9) 0 1 = some (r.1 + 10) := zgR_of mc_9 rfl
theorem mg_9_2 : zgR r (zmk r c0 c1 c2 I J Q N A Ga Va t) (r.1 + 9) 0 2 = some (r.1 + 11) := zgR_of mc_9 rfl
theorem mg_9_3 : zgR r (zmk r c0 c1 c2 I J Q N A Ga Va t) (r.1 + 9) 0 3 = some (r.1 + 12) := zgR_of mc_9 rfl
theorem mg_9_4 : zgR r (zmk r c0 c1 c2 I J Q N A Ga Va t) (r.1 + 9) 0 4 = some (r.1 + 13) := zgR_of mc_9 rfl
theorem mc_10 : (zmk r c0 c1 c2 I J Q N A Ga Va t)[10]? = some (.inl (6, N.1)) := rfl
theorem ms_10 (f : Nat → Int32) : (zmk r c0 c1 c2 I J Q N A Ga Va t).set 10 (.inl (6, f)) = zmk r c0 c1 c2 I J Q (f, N.2.1, N.2.2.1, N.2.2.2) A Ga Va t := rfl
theorem ma_10 {j : Nat} (hj : j < 6) : zaI r (zmk r c0 c1 c2 I J Q N A Ga Va t) (r.1 + 10) (nI j) = some (N.1 j) := zaI_of mc_10 hj (by decide)
theorem mw_10 {j : Nat} {v : Int32} (hj : j < 6) : zsI r (zmk r c0 c1 c2 I J Q N A Ga Va t) (r.1 + 10) (nI j) v = some (zmk r c0 c1 c2 I J Q (upd (N.1) j v, N.2.1, N.2.2.1, N.2.2.2) A Ga Va t) := (zsI_of mc_10 hj (by decide)).trans rfl
theorem mn_10 : zaN r (zmk r c0 c1 c2 I J Q N A Ga Va t) (r.1 + 10) = some 6 := zaN_of mc_10
theorem mc_11 : (zmk r c0 c1 c2 I J Q N A Ga Va t)[11]? = some (.inl (7, N.2.1)) := rfl
theorem ms_11 (f : Nat → Int32) : (zmk r c0 c1 c2 I J Q N A Ga Va t).set 11 (.inl (7, f)) = zmk r c0 c1 c2 I J Q (N.1, f, N.2.2.1, N.2.2.2) A Ga Va t := rfl
theorem ma_11 {j : Nat} (hj : j < 7) : zaI r (zmk r c0 c1 c2 I J Q N A Ga Va t) (r.1 + 11) (nI j) = some (N.2.1 j) := zaI_of mc_11 hj (by decide)
theorem mw_11 {j : Nat} {v : Int32} (hj : j < 7) : zsI r (zmk r c0 c1 c2 I J Q N A Ga Va t) (r.1 + 11) (nI j) v = some (zmk r c0 c1 c2 I J Q (N.1, upd (N.2.1) j v, N.2.2.1, N.2.2.2) A Ga Va t) := (zsI_of mc_11 hj (by decide)).trans rfl
theorem mn_11 : zaN r (zmk r c0 c1 c2 I J Q N A Ga Va t) (r.1 + 11) = some 7 := zaN_of mc_11
theorem mc_12 : (zmk r c0 c1 c2 I J Q N A Ga Va t)[12]? = some (.inl (6, N.2.2.1)) := rfl
theorem ms_12 (f : Nat → Int32) : (zmk r c0 c1 c2 I J Q N A Ga Va t).set 12 (.inl (6, f)) = zmk r c0 c1 c2 I J Q (N.1, N.2.1, f, N.2.2.2) A Ga Va t := rfl
theorem ma_12 {j : Nat} (hj : j < 6) : zaI r (zmk r c0 c1 c2 I J Q N A Ga Va t) (r.1 + 12) (nI j) = some (N.2.2.1 j) := zaI_of mc_12 hj (by decide)
theorem mw_12 {j : Nat} {v : Int32} (hj : j < 6) : zsI r (zmk r c0 c1 c2 I J Q N A Ga Va t) (r.1 + 12) (nI j) v = some (zmk r c0 c1 c2 I J Q (N.1, N.2.1, upd (N.2.2.1) j v, N.2.2.2) A Ga Va t) := (zsI_of mc_12 hj (by decide)).trans rfl
theorem mn_12 : zaN r (zmk r c0 c1 c2 I J Q N A Ga Va t) (r.1 + 12) = some 6 := zaN_of mc_12
theorem mc_13 : (zmk r c0 c1 c2 I J Q N A Ga Va t)[13]? = some (.inl (6, N.2.2.2)) := rfl
theorem ms_13 (f : Nat → Int32) : (zmk r c0 c1 c2 I J Q N A Ga Va t).set 13 (.inl (6, f)) = zmk r c0 c1 c2 I J Q (N.1, N.2.1, N.2.2.1, f) A Ga Va t := rfl
theorem ma_13 {j : Nat} (hj : j < 6) : zaI r (zmk r c0 c1 c2 I J Q N A Ga Va t) (r.1 + 13) (nI j) = some (N.2.2.2 j) := zaI_of mc_13 hj (by decide)
theorem mw_13 {j : Nat} {v : Int32} (hj : j < 6) : zsI r (zmk r c0 c1 c2 I J Q N A Ga Va t) (r.1 + 13) (nI j) v = some (zmk r c0 c1 c2 I J Q (N.1, N.2.1, N.2.2.1, upd (N.2.2.2) j v) A Ga Va t) := (zsI_of mc_13 hj (by decide)).trans rfl
theorem mn_13 : zaN r (zmk r c0 c1 c2 I J Q N A Ga Va t) (r.1 + 13) = some 6 := zaN_of mc_13
theorem mc_14 : (zmk r c0 c1 c2 I J Q N A Ga Va t)[14]? = some (.inr (.inr (0, [.ref (r.1 + c2), .ref (r.1 + 15), .ref (r.1 + 16), .ref (r.1 + 17), .ref (r.1 + 18)]))) := rfl
theorem mo_14 : zob r (zmk r c0 c1 c2 I J Q N A Ga Va t) (r.1 + 14) 0 = true := zob_of mc_14
theorem mg_14_0 : zgR r (zmk r c0 c1 c2 I J Q N A Ga Va t) (r.1 + 14) 0 0 = some (r.1 + c2) := zgR_of mc_14 rfl
theorem mp_14_0 (v : Nat) : zpF r (zmk r c0 c1 c2 I J Q N A Ga Va t) (r.1 + 14) 0 0 (.ref (r.1 + v)) = some (zmk r c0 c1 v I J Q N A Ga Va t) := (zpF_of mc_14 (Nat.le_of_ble_eq_true rfl)).trans rfl
theorem mg_14_1 : zgR r (zmk r c0 c1 c2 I J Q N A Ga Va t) (r.1 + 14) 0 1 = some (r.1 + 15) := zgR_of mc_14 rfl
theorem mg_14_2 : zgR r (zmk r c0 c1 c2 I J Q N A Ga Va t) (r.1 + 14) 0 2 = some (r.1 + 16) := zgR_of mc_14 rfl
theorem mg_14_3 : zgR r (zmk r c0 c1 c2 I J Q N A Ga Va t) (r.1 + 14) 0 3 = some (r.1 + 17) := zgR_of mc_14 rfl
theorem mg_14_4 : zgR r (zmk r c0 c1 c2 I J Q N A Ga Va t) (r.1 + 14) 0 4 = some (r.1 + 18) := zgR_of mc_14 rfl
theorem mc_15 : (zmk r c0 c1 c2 I J Q N A Ga Va t)[15]? = some (.inl (6, A.1)) := rfl
theorem ms_15 (f : Nat → Int32) : (zmk r c0 c1 c2 I J Q N A Ga Va t).set 15 (.inl (6, f)) = zmk r c0 c1 c2 I J Q N (f, A.2.1, A.2.2.1, A.2.2.2) Ga Va t := rfl
theorem ma_15 {j : Nat} (hj : j < 6) : zaI r (zmk r c0 c1 c2 I J Q N A Ga Va t) (r.1 + 15) (nI j) = some (A.1 j) := zaI_of mc_15 hj (by decide)
theorem mw_15 {j : Nat} {v : Int32} (hj : j < 6) : zsI r (zmk r c0 c1 c2 I J Q N A Ga Va t) (r.1 + 15) (nI j) v = some (zmk r c0 c1 c2 I J Q N (upd (A.1) j v, A.2.1, A.2.2.1, A.2.2.2) Ga Va t) := (zsI_of mc_15 hj (by decide)).trans rfl
theorem mn_15 : zaN r (zmk r c0 c1 c2 I J Q N A Ga Va t) (r.1 + 15) = some 6 := zaN_of mc_15
theorem mc_16 : (zmk r c0 c1 c2 I J Q N A Ga Va t)[16]? = some (.inl (7, A.2.1)) := rfl
theorem ms_16 (f : Nat → Int32) : (zmk r c0 c1 c2 I J Q N A Ga Va t).set 16 (.inl (7, f)) = zmk r c0 c1 c2 I J Q N (A.1, f, A.2.2.1, A.2.2.2) Ga Va t := rfl
theorem ma_16 {j : Nat} (hj : j < 7) : zaI r (zmk r c0 c1 c2 I J Q N A Ga Va t) (r.1 + 16) (nI j) = some (A.2.1 j) := zaI_of mc_16 hj (by decide)
theorem mw_16 {j : Nat} {v : Int32} (hj : j < 7) : zsI r (zmk r c0 c1 c2 I J Q N A Ga Va t) (r.1 + 16) (nI j) v = some (zmk r c0 c1 c2 I J Q N (A.1, upd (A.2.1) j v, A.2.2.1, A.2.2.2) Ga Va t) := (zsI_of mc_16 hj (by decide)).trans rfl
theorem mn_16 : zaN r (zmk r c0 c1 c2 I J Q N A Ga Va t) (r.1 + 16) = some 7 := zaN_of mc_16
theorem mc_17 : (zmk r c0 c1 c2 I J Q N A Ga Va t)[17]? = some (.inl (6, A.2.2.1)) := rfl
theorem ms_17 (f : Nat → Int32) : (zmk r c0 c1 c2 I J Q N A Ga Va t).set 17 (.inl (6, f)) = zmk r c0 c1 c2 I J Q N (A.1, A.2.1, f, A.2.2.2) Ga Va t := rfl
theorem ma_17 {j : Nat} (hj : j < 6) : zaI r (zmk r c0 c1 c2 I J Q N A Ga Va t) (r.1 + 17) (nI j) = some (A.2.2.1 j) := zaI_of mc_17 hj (by decide)
theorem mw_17 {j : Nat} {v : Int32} (hj : j < 6) : zsI r (zmk r c0 c1 c2 I J Q N A Ga Va t) (r.1 + 17) (nI j) v = some (zmk r c0 c1 c2 I J Q N (A.1, A.2.1, upd (A.2.2.1) j v, A.2.2.2) Ga Va t) := (zsI_of mc_17 hj (by decide)).trans rfl
theorem mn_17 : zaN r (zmk r c0 c1 c2 I J Q N A Ga Va t) (r.1 + 17) = some 6 := zaN_of mc_17
theorem mc_18 : (zmk r c0 c1 c2 I J Q N A Ga Va t)[18]? = some (.inl (6, A.2.2.2)) := rfl
theorem ms_18 (f : Nat → Int32) : (zmk r c0 c1 c2 I J Q N A Ga Va t).set 18 (.inl (6, f)) = zmk r c0 c1 c2 I J Q N (A.1, A.2.1, A.2.2.1, f) Ga Va t := rfl
theorem ma_18 {j : Nat} (hj : j < 6) : zaI r (zmk r c0 c1 c2 I J Q N A Ga Va t) (r.1 + 18) (nI j) = some (A.2.2.2 j) := zaI_of mc_18 hj (by decide)
theorem mw_18 {j : Nat} {v : Int32} (hj : j < 6) : zsI r (zmk r c0 c1 c2 I J Q N A Ga Va t) (r.1 + 18) (nI j) v = some (zmk r c0 c1 c2 I J Q N (A.1, A.2.1, A.2.2.1, upd (A.2.2.2) j v) Ga Va t) := (zsI_of mc_18 hj (by decide)).trans rfl
theorem mn_18 : zaN r (zmk r c0 c1 c2 I J Q N A Ga Va t) (r.1 + 18) = some 6 := zaN_of mc_18
theorem mc_19 : (zmk r c0 c1 c2 I J Q N A Ga Va t)[19]? = some (.inr (.inr (2, [.ref (r.1 + 20), .int (I 2)]))) := rfl
theorem mo_19 : zob r (zmk r c0 c1 c2 I J Q N A Ga Va t) (r.1 + 19) 2 = true := zob_of mc_19
theorem mg_19_0 : zgR r (zmk r c0 c1 c2 I J Q N A Ga Va t) (r.1 + 19) 2 0 = some (r.1 + 20) := zgR_of mc_19 rfl
theorem mg_19_1 : zgI r (zmk r c0 c1 c2 I J Q N A Ga Va t) (r.1 + 19) 2 1 = some (I 2) := zgI_of mc_19 rfl
theorem mp_19_1 (v : Int32) : zpF r (zmk r c0 c1 c2 I J Q N A Ga Va t) (r.1 + 19) 2 1 (.int v) = some (zmk r c0 c1 c2 (va_up I 2 v) J Q N A Ga Va t) := (zpF_of mc_19 (Nat.le_of_ble_eq_true rfl)).trans rfl
theorem mc_20 : (zmk r c0 c1 c2 I J Q N A Ga Va t)[20]? = some (.inl (1098, Q 9)) := rfl
theorem ms_20 (f : Nat → Int32) : (zmk r c0 c1 c2 I J Q N A Ga Va t).set 20 (.inl (1098, f)) = zmk r c0 c1 c2 I J (va_up Q 9 f) N A Ga Va t := rfl
theorem ma_20 {j : Nat} (hj : j < 1098) : zaI r (zmk r c0 c1 c2 I J Q N A Ga Va t) (r.1 + 20) (nI j) = some (Q 9 j) := zaI_of mc_20 hj (by decide)
theorem mw_20 {j : Nat} {v : Int32} (hj : j < 1098) : zsI r (zmk r c0 c1 c2 I J Q N A Ga Va t) (r.1 + 20) (nI j) v = some (zmk r c0 c1 c2 I J (va_up Q 9 (upd (Q 9) j v)) N A Ga Va t) := (zsI_of mc_20 hj (by decide)).trans rfl
theorem mn_20 : zaN r (zmk r c0 c1 c2 I J Q N A Ga Va t) (r.1 + 20) = some 1098 := zaN_of mc_20
theorem mc_21 : (zmk r c0 c1 c2 I J Q N A Ga Va t)[21]? = some (.inr (.inl (2, 3, zrf (r.1 + 43) 3))) := rfl
theorem mq_21 {j : Nat} (hj : j < 3) : zaQ r (zmk r c0 c1 c2 I J Q N A Ga Va t) (r.1 + 21) (nI j) = some (some (r.1 + 43 + 2 * j)) := (zaQ_of mc_21 (by decide) hj (by omega)).trans (by unfold zrf; rw [if_pos hj])
theorem mn_21 : zaN r (zmk r c0 c1 c2 I J Q N A Ga Va t) (r.1 + 21) = some 3 := zaNq_of mc_21 (by decide)
theorem mc_22 : (zmk r c0 c1 c2 I J Q N A Ga Va t)[22]? = some (.inl (6, Q 0)) := rfl
theorem ms_22 (f : Nat → Int32) : (zmk r c0 c1 c2 I J Q N A Ga Va t).set 22 (.inl (6, f)) = zmk r c0 c1 c2 I J (va_up Q 0 f) N A Ga Va t := rfl
theorem ma_22 {j : Nat} (hj : j < 6) : zaI r (zmk r c0 c1 c2 I J Q N A Ga Va t) (r.1 + 22) (nI j) = some (Q 0 j) := zaI_of mc_22 hj (by decide)
theorem mw_22 {j : Nat} {v : Int32} (hj : j < 6) : zsI r (zmk r c0 c1 c2 I J Q N A Ga Va t) (r.1 + 22) (nI j) v = some (zmk r c0 c1 c2 I J (va_up Q 0 (upd (Q 0) j v)) N A Ga Va t) := (zsI_of mc_22 hj (by decide)).trans rfl
theorem mn_22 : zaN r (zmk r c0 c1 c2 I J Q N A Ga Va t) (r.1 + 22) = some 6 := zaN_of mc_22
theorem mc_23 : (zmk r c0 c1 c2 I J Q N A Ga Va t)[23]? = some (.inr (.inr (4, [.ref (r.1 + 24), .int (I 6)]))) := rfl
theorem mo_23 : zob r (zmk r c0 c1 c2 I J Q N A Ga Va t) (r.1 + 23) 4 = true := zob_of mc_23
theorem mg_23_0 : zgR r (zmk r c0 c1 c2 I J Q N A Ga Va t) (r.1 + 23) 4 0 = some (r.1 + 24) := zgR_of mc_23 rfl
theorem mg_23_1 : zgI r (zmk r c0 c1 c2 I J Q N A Ga Va t) (r.1 + 23) 4 1 = some (I 6) := zgI_of mc_23 rfl
theorem mp_23_1 (v : Int32) : zpF r (zmk r c0 c1 c2 I J Q N A Ga Va t) (r.1 + 23) 4 1 (.int v) = some (zmk r c0 c1 c2 (va_up I 6 v) J Q N A Ga Va t) := (zpF_of mc_23 (Nat.le_of_ble_eq_true rfl)).trans rfl
theorem mc_24 : (zmk r c0 c1 c2 I J Q N A Ga Va t)[24]? = some (.inl (60, Q 13)) := rfl
theorem ms_24 (f : Nat → Int32) : (zmk r c0 c1 c2 I J Q N A Ga Va t).set 24 (.inl (60, f)) = zmk r c0 c1 c2 I J (va_up Q 13 f) N A Ga Va t := rfl
theorem ma_24 {j : Nat} (hj : j < 60) : zaI r (zmk r c0 c1 c2 I J Q N A Ga Va t) (r.1 + 24) (nI j) = some (Q 13 j) := zaI_of mc_24 hj (by decide)
theorem mw_24 {j : Nat} {v : Int32} (hj : j < 60) : zsI r (zmk r c0 c1 c2 I J Q N A Ga Va t) (r.1 + 24) (nI j) v = some (zmk r c0 c1 c2 I J (va_up Q 13 (upd (Q 13) j v)) N A Ga Va t) := (zsI_of mc_24 hj (by decide)).trans rfl
theorem mn_24 : zaN r (zmk r c0 c1 c2 I J Q N A Ga Va t) (r.1 + 24) = some 60 := zaN_of mc_24
theorem mc_25 : (zmk r c0 c1 c2 I J Q N A Ga Va t)[25]? = some (.inr (.inr (4, [.ref (r.1 + 26), .int (I 7)]))) := rfl
theorem mo_25 : zob r (zmk r c0 c1 c2 I J Q N A Ga Va t) (r.1 + 25) 4 = true := zob_of mc_25
theorem mg_25_0 : zgR r (zmk r c0 c1 c2 I J Q N A Ga Va t) (r.1 + 25) 4 0 = some (r.1 + 26) := zgR_of mc_25 rfl
theorem mg_25_1 : zgI r (zmk r c0 c1 c2 I J Q N A Ga Va t) (r.1 + 25) 4 1 = some (I 7) := zgI_of mc_25 rfl
theorem mp_25_1 (v : Int32) : zpF r (zmk r c0 c1 c2 I J Q N A Ga Va t) (r.1 + 25) 4 1 (.int v) = some (zmk r c0 c1 c2 (va_up I 7 v) J Q N A Ga Va t) := (zpF_of mc_25 (Nat.le_of_ble_eq_true rfl)).trans rfl
theorem mc_26 : (zmk r c0 c1 c2 I J Q N A Ga Va t)[26]? = some (.inl (60, Q 14)) := rfl
theorem ms_26 (f : Nat → Int32) : (zmk r c0 c1 c2 I J Q N A Ga Va t).set 26 (.inl (60, f)) = zmk r c0 c1 c2 I J (va_up Q 14 f) N A Ga Va t := rfl
theorem ma_26 {j : Nat} (hj : j < 60) : zaI r (zmk r c0 c1 c2 I J Q N A Ga Va t) (r.1 + 26) (nI j) = some (Q 14 j) := zaI_of mc_26 hj (by decide)
theorem mw_26 {j : Nat} {v : Int32} (hj : j < 60) : zsI r (zmk r c0 c1 c2 I J Q N A Ga Va t) (r.1 + 26) (nI j) v = some (zmk r c0 c1 c2 I J (va_up Q 14 (upd (Q 14) j v)) N A Ga Va t) := (zsI_of mc_26 hj (by decide)).trans rfl
theorem mn_26 : zaN r (zmk r c0 c1 c2 I J Q N A Ga Va t) (r.1 + 26) = some 60 := zaN_of mc_26
theorem mc_27 : (zmk r c0 c1 c2 I J Q N A Ga Va t)[27]? = some (.inr (.inr (4, [.ref (r.1 + 28), .int (I 8)]))) := rfl
theorem mo_27 : zob r (zmk r c0 c1 c2 I J Q N A Ga Va t) (r.1 + 27) 4 = true := zob_of mc_27
theorem mg_27_0 : zgR r (zmk r c0 c1 c2 I J Q N A Ga Va t) (r.1 + 27) 4 0 = some (r.1 + 28) := zgR_of mc_27 rfl
theorem mg_27_1 : zgI r (zmk r c0 c1 c2 I J Q N A Ga Va t) (r.1 + 27) 4 1 = some (I 8) := zgI_of mc_27 rfl
theorem mp_27_1 (v : Int32) : zpF r (zmk r c0 c1 c2 I J Q N A Ga Va t) (r.1 + 27) 4 1 (.int v) = some (zmk r c0 c1 c2 (va_up I 8 v) J Q N A Ga Va t) := (zpF_of mc_27 (Nat.le_of_ble_eq_true rfl)).trans rfl
theorem mc_28 : (zmk r c0 c1 c2 I J Q N A Ga Va t)[28]? = some (.inl (60, Q 15)) := rfl
theorem ms_28 (f : Nat → Int32) : (zmk r c0 c1 c2 I J Q N A Ga Va t).set 28 (.inl (60, f)) = zmk r c0 c1 c2 I J (va_up Q 15 f) N A Ga Va t := rfl
theorem ma_28 {j : Nat} (hj : j < 60) : zaI r (zmk r c0 c1 c2 I J Q N A Ga Va t) (r.1 + 28) (nI j) = some (Q 15 j) := zaI_of mc_28 hj (by decide)
theorem mw_28 {j : Nat} {v : Int32} (hj : j < 60) : zsI r (zmk r c0 c1 c2 I J Q N A Ga Va t) (r.1 + 28) (nI j) v = some (zmk r c0 c1 c2 I J (va_up Q 15 (upd (Q 15) j v)) N A Ga Va t) := (zsI_of mc_28 hj (by decide)).trans rfl
theorem mn_28 : zaN r (zmk r c0 c1 c2 I J Q N A Ga Va t) (r.1 + 28) = some 60 := zaN_of mc_28
theorem mc_29 : (zmk r c0 c1 c2 I J Q N A Ga Va t)[29]? = some (.inr (.inr (4, [.ref (r.1 + 30), .int (I 9)]))) := rfl
theorem mo_29 : zob r (zmk r c0 c1 c2 I J Q N A Ga Va t) (r.1 + 29) 4 = true := zob_of mc_29
theorem mg_29_0 : zgR r (zmk r c0 c1 c2 I J Q N A Ga Va t) (r.1 + 29) 4 0 = some (r.1 + 30) := zgR_of mc_29 rfl
theorem mg_29_1 : zgI r (zmk r c0 c1 c2 I J Q N A Ga Va t) (r.1 + 29) 4 1 = some (I 9) := zgI_of mc_29 rfl
theorem mp_29_1 (v : Int32) : zpF r (zmk r c0 c1 c2 I J Q N A Ga Va t) (r.1 + 29) 4 1 (.int v) = some (zmk r c0 c1 c2 (va_up I 9 v) J Q N A Ga Va t) := (zpF_of mc_29 (Nat.le_of_ble_eq_true rfl)).trans rfl
theorem mc_30 : (zmk r c0 c1 c2 I J Q N A Ga Va t)[30]? = some (.inl (60, Q 16)) := rfl
theorem ms_30 (f : Nat → Int32) : (zmk r c0 c1 c2 I J Q N A Ga Va t).set 30 (.inl (60, f)) = zmk r c0 c1 c2 I J (va_up Q 16 f) N A Ga Va t := rfl
theorem ma_30 {j : Nat} (hj : j < 60) : zaI r (zmk r c0 c1 c2 I J Q N A Ga Va t) (r.1 + 30) (nI j) = some (Q 16 j) := zaI_of mc_30 hj (by decide)
theorem mw_30 {j : Nat} {v : Int32} (hj : j < 60) : zsI r (zmk r c0 c1 c2 I J Q N A Ga Va t) (r.1 + 30) (nI j) v = some (zmk r c0 c1 c2 I J (va_up Q 16 (upd (Q 16) j v)) N A Ga Va t) := (zsI_of mc_30 hj (by decide)).trans rfl
theorem mn_30 : zaN r (zmk r c0 c1 c2 I J Q N A Ga Va t) (r.1 + 30) = some 60 := zaN_of mc_30
theorem mc_31 : (zmk r c0 c1 c2 I J Q N A Ga Va t)[31]? = some (.inr (.inr (4, [.ref (r.1 + 32), .int (I 10)]))) := rfl
theorem mo_31 : zob r (zmk r c0 c1 c2 I J Q N A Ga Va t) (r.1 + 31) 4 = true := zob_of mc_31
theorem mg_31_0 : zgR r (zmk r c0 c1 c2 I J Q N A Ga Va t) (r.1 + 31) 4 0 = some (r.1 + 32) := zgR_of mc_31 rfl
theorem mg_31_1 : zgI r (zmk r c0 c1 c2 I J Q N A Ga Va t) (r.1 + 31) 4 1 = some (I 10) := zgI_of mc_31 rfl
theorem mp_31_1 (v : Int32) : zpF r (zmk r c0 c1 c2 I J Q N A Ga Va t) (r.1 + 31) 4 1 (.int v) = some (zmk r c0 c1 c2 (va_up I 10 v) J Q N A Ga Va t) := (zpF_of mc_31 (Nat.le_of_ble_eq_true rfl)).trans rfl
theorem mc_32 : (zmk r c0 c1 c2 I J Q N A Ga Va t)[32]? = some (.inl (60, Q 17)) := rfl
theorem ms_32 (f : Nat → Int32) : (zmk r c0 c1 c2 I J Q N A Ga Va t).set 32 (.inl (60, f)) = zmk r c0 c1 c2 I J (va_up Q 17 f) N A Ga Va t := rfl
theorem ma_32 {j : Nat} (hj : j < 60) : zaI r (zmk r c0 c1 c2 I J Q N A Ga Va t) (r.1 + 32) (nI j) = some (Q 17 j) := zaI_of mc_32 hj (by decide)
theorem mw_32 {j : Nat} {v : Int32} (hj : j < 60) : zsI r (zmk r c0 c1 c2 I J Q N A Ga Va t) (r.1 + 32) (nI j) v = some (zmk r c0 c1 c2 I J (va_up Q 17 (upd (Q 17) j v)) N A Ga Va t) := (zsI_of mc_32 hj (by decide)).trans rfl
theorem mn_32 : zaN r (zmk r c0 c1 c2 I J Q N A Ga Va t) (r.1 + 32) = some 60 := zaN_of mc_32
theorem mc_33 : (zmk r c0 c1 c2 I J Q N A Ga Va t)[33]? = some (.inr (.inr (4, [.ref (r.1 + 34), .int (I 11)]))) := rfl
theorem mo_33 : zob r (zmk r c0 c1 c2 I J Q N A Ga Va t) (r.1 + 33) 4 = true := zob_of mc_33
theorem mg_33_0 : zgR r (zmk r c0 c1 c2 I J Q N A Ga Va t) (r.1 + 33) 4 0 = some (r.1 + 34) := zgR_of mc_33 rfl
theorem mg_33_1 : zgI r (zmk r c0 c1 c2 I J Q N A Ga Va t) (r.1 + 33) 4 1 = some (I 11) := zgI_of mc_33 rfl
theorem mp_33_1 (v : Int32) : zpF r (zmk r c0 c1 c2 I J Q N A Ga Va t) (r.1 + 33) 4 1 (.int v) = some (zmk r c0 c1 c2 (va_up I 11 v) J Q N A Ga Va t) := (zpF_of mc_33 (Nat.le_of_ble_eq_true rfl)).trans rfl
theorem mc_34 : (zmk r c0 c1 c2 I J Q N A Ga Va t)[34]? = some (.inl (60, Q 18)) := rfl
theorem ms_34 (f : Nat → Int32) : (zmk r c0 c1 c2 I J Q N A Ga Va t).set 34 (.inl (60, f)) = zmk r c0 c1 c2 I J (va_up Q 18 f) N A Ga Va t := rfl
theorem ma_34 {j : Nat} (hj : j < 60) : zaI r (zmk r c0 c1 c2 I J Q N A Ga Va t) (r.1 + 34) (nI j) = some (Q 18 j) := zaI_of mc_34 hj (by decide)
theorem mw_34 {j : Nat} {v : Int32} (hj : j < 60) : zsI r (zmk r c0 c1 c2 I J Q N A Ga Va t) (r.1 + 34) (nI j) v = some (zmk r c0 c1 c2 I J (va_up Q 18 (upd (Q 18) j v)) N A Ga Va t) := (zsI_of mc_34 hj (by decide)).trans rfl
theorem mn_34 : zaN r (zmk r c0 c1 c2 I J Q N A Ga Va t) (r.1 + 34) = some 60 := zaN_of mc_34
theorem mc_35 : (zmk r c0 c1 c2 I J Q N A Ga Va t)[35]? = some (.inr (.inr (4, [.ref (r.1 + 36), .int (I 12)]))) := rfl
theorem mo_35 : zob r (zmk r c0 c1 c2 I J Q N A Ga Va t) (r.1 + 35) 4 = true := zob_of mc_35
theorem mg_35_0 : zgR r (zmk r c0 c1 c2 I J Q N A Ga Va t) (r.1 + 35) 4 0 = some (r.1 + 36) := zgR_of mc_35 rfl
theorem mg_35_1 : zgI r (zmk r c0 c1 c2 I J Q N A Ga Va t) (r.1 + 35) 4 1 = some (I 12) := zgI_of mc_35 rfl
theorem mp_35_1 (v : Int32) : zpF r (zmk r c0 c1 c2 I J Q N A Ga Va t) (r.1 + 35) 4 1 (.int v) = some (zmk r c0 c1 c2 (va_up I 12 v) J Q N A Ga Va t) := (zpF_of mc_35 (Nat.le_of_ble_eq_true rfl)).trans rfl
theorem mc_36 : (zmk r c0 c1 c2 I J Q N A Ga Va t)[36]? = some (.inl (60, Q 19)) := rfl
theorem ms_36 (f : Nat → Int32) : (zmk r c0 c1 c2 I J Q N A Ga Va t).set 36 (.inl (60, f)) = zmk r c0 c1 c2 I J (va_up Q 19 f) N A Ga Va t := rfl
theorem ma_36 {j : Nat} (hj : j < 60) : zaI r (zmk r c0 c1 c2 I J Q N A Ga Va t) (r.1 + 36) (nI j) = some (Q 19 j) := zaI_of mc_36 hj (by decide)
theorem mw_36 {j : Nat} {v : Int32} (hj : j < 60) : zsI r (zmk r c0 c1 c2 I J Q N A Ga Va t) (r.1 + 36) (nI j) v = some (zmk r c0 c1 c2 I J (va_up Q 19 (upd (Q 19) j v)) N A Ga Va t) := (zsI_of mc_36 hj (by decide)).trans rfl
theorem mn_36 : zaN r (zmk r c0 c1 c2 I J Q N A Ga Va t) (r.1 + 36) = some 60 := zaN_of mc_36
theorem mc_37 : (zmk r c0 c1 c2 I J Q N A Ga Va t)[37]? = some (.inr (.inr (4, [.ref (r.1 + 38), .int (I 13)]))) := rfl
theorem mo_37 : zob r (zmk r c0 c1 c2 I J Q N A Ga Va t) (r.1 + 37) 4 = true := zob_of mc_37
theorem mg_37_0 : zgR r (zmk r c0 c1 c2 I J Q N A Ga Va t) (r.1 + 37) 4 0 = some (r.1 + 38) := zgR_of mc_37 rfl
theorem mg_37_1 : zgI r (zmk r c0 c1 c2 I J Q N A Ga Va t) (r.1 + 37) 4 1 = some (I 13) := zgI_of mc_37 rfl
theorem mp_37_1 (v : Int32) : zpF r (zmk r c0 c1 c2 I J Q N A Ga Va t) (r.1 + 37) 4 1 (.int v) = some (zmk r c0 c1 c2 (va_up I 13 v) J Q N A Ga Va t) := (zpF_of mc_37 (Nat.le_of_ble_eq_true rfl)).trans rfl
theorem mc_38 : (zmk r c0 c1 c2 I J Q N A Ga Va t)[38]? = some (.inl (60, Q 20)) := rfl
theorem ms_38 (f : Nat → Int32) : (zmk r c0 c1 c2 I J Q N A Ga Va t).set 38 (.inl (60, f)) = zmk r c0 c1 c2 I J (va_up Q 20 f) N A Ga Va t := rfl
theorem ma_38 {j : Nat} (hj : j < 60) : zaI r (zmk r c0 c1 c2 I J Q N A Ga Va t) (r.1 + 38) (nI j) = some (Q 20 j) := zaI_of mc_38 hj (by decide)
theorem mw_38 {j : Nat} {v : Int32} (hj : j < 60) : zsI r (zmk r c0 c1 c2 I J Q N A Ga Va t) (r.1 + 38) (nI j) v = some (zmk r c0 c1 c2 I J (va_up Q 20 (upd (Q 20) j v)) N A Ga Va t) := (zsI_of mc_38 hj (by decide)).trans rfl
theorem mn_38 : zaN r (zmk r c0 c1 c2 I J Q N A Ga Va t) (r.1 + 38) = some 60 := zaN_of mc_38
theorem mc_39 : (zmk r c0 c1 c2 I J Q N A Ga Va t)[39]? = some (.inr (.inr (4, [.ref (r.1 + 40), .int (I 14)]))) := rfl
theorem mo_39 : zob r (zmk r c0 c1 c2 I J Q N A Ga Va t) (r.1 + 39) 4 = true := zob_of mc_39
theorem mg_39_0 : zgR r (zmk r c0 c1 c2 I J Q N A Ga Va t) (r.1 + 39) 4 0 = some (r.1 + 40) := zgR_of mc_39 rfl
theorem mg_39_1 : zgI r (zmk r c0 c1 c2 I J Q N A Ga Va t) (r.1 + 39) 4 1 = some (I 14) := zgI_of mc_39 rfl
theorem mp_39_1 (v : Int32) : zpF r (zmk r c0 c1 c2 I J Q N A Ga Va t) (r.1 + 39) 4 1 (.int v) = some (zmk r c0 c1 c2 (va_up I 14 v) J Q N A Ga Va t) := (zpF_of mc_39 (Nat.le_of_ble_eq_true rfl)).trans rfl
theorem mc_40 : (zmk r c0 c1 c2 I J Q N A Ga Va t)[40]? = some (.inl (60, Q 21)) := rfl
theorem ms_40 (f : Nat → Int32) : (zmk r c0 c1 c2 I J Q N A Ga Va t).set 40 (.inl (60, f)) = zmk r c0 c1 c2 I J (va_up Q 21 f) N A Ga Va t := rfl
theorem ma_40 {j : Nat} (hj : j < 60) : zaI r (zmk r c0 c1 c2 I J Q N A Ga Va t) (r.1 + 40) (nI j) = some (Q 21 j) := zaI_of mc_40 hj (by decide)
theorem mw_40 {j : Nat} {v : Int32} (hj : j < 60) : zsI r (zmk r c0 c1 c2 I J Q N A Ga Va t) (r.1 + 40) (nI j) v = some (zmk r c0 c1 c2 I J (va_up Q 21 (upd (Q 21) j v)) N A Ga Va t) := (zsI_of mc_40 hj (by decide)).trans rfl
theorem mn_40 : zaN r (zmk r c0 c1 c2 I J Q N A Ga Va t) (r.1 + 40) = some 60 := zaN_of mc_40
theorem mc_41 : (zmk r c0 c1 c2 I J Q N A Ga Va t)[41]? = some (.inr (.inr (4, [.ref (r.1 + 42), .int (I 15)]))) := rfl
theorem mo_41 : zob r (zmk r c0 c1 c2 I J Q N A Ga Va t) (r.1 + 41) 4 = true := zob_of mc_41
theorem mg_41_0 : zgR r (zmk r c0 c1 c2 I J Q N A Ga Va t) (r.1 + 41) 4 0 = some (r.1 + 42) := zgR_of mc_41 rfl
theorem mg_41_1 : zgI r (zmk r c0 c1 c2 I J Q N A Ga Va t) (r.1 + 41) 4 1 = some (I 15) := zgI_of mc_41 rfl
theorem mp_41_1 (v : Int32) : zpF r (zmk r c0 c1 c2 I J Q N A Ga Va t) (r.1 + 41) 4 1 (.int v) = some (zmk r c0 c1 c2 (va_up I 15 v) J Q N A Ga Va t) := (zpF_of mc_41 (Nat.le_of_ble_eq_true rfl)).trans rfl
theorem mc_42 : (zmk r c0 c1 c2 I J Q N A Ga Va t)[42]? = some (.inl (60, Q 22)) := rfl
theorem ms_42 (f : Nat → Int32) : (zmk r c0 c1 c2 I J Q N A Ga Va t).set 42 (.inl (60, f)) = zmk r c0 c1 c2 I J (va_up Q 22 f) N A Ga Va t := rfl
theorem ma_42 {j : Nat} (hj : j < 60) : zaI r (zmk r c0 c1 c2 I J Q N A Ga Va t) (r.1 + 42) (nI j) = some (Q 22 j) := zaI_of mc_42 hj (by decide)
theorem mw_42 {j : Nat} {v : Int32} (hj : j < 60) : zsI r (zmk r c0 c1 c2 I J Q N A Ga Va t) (r.1 + 42) (nI j) v = some (zmk r c0 c1 c2 I J (va_up Q 22 (upd (Q 22) j v)) N A Ga Va t) := (zsI_of mc_42 hj (by decide)).trans rfl
theorem mn_42 : zaN r (zmk r c0 c1 c2 I J Q N A Ga Va t) (r.1 + 42) = some 60 := zaN_of mc_42
theorem mc_43 : (zmk r c0 c1 c2 I J Q N A Ga Va t)[43]? = some (.inr (.inr (2, [.ref (r.1 + 44), .int (I 3)]))) := rfl
theorem mo_43 : zob r (zmk r c0 c1 c2 I J Q N A Ga Va t) (r.1 + 43) 2 = true := zob_of mc_43
theorem mg_43_0 : zgR r (zmk r c0 c1 c2 I J Q N A Ga Va t) (r.1 + 43) 2 0 = some (r.1 + 44) := zgR_of mc_43 rfl
theorem mg_43_1 : zgI r (zmk r c0 c1 c2 I J Q N A Ga Va t) (r.1 + 43) 2 1 = some (I 3) := zgI_of mc_43 rfl
theorem mp_43_1 (v : Int32) : zpF r (zmk r c0 c1 c2 I J Q N A Ga Va t) (r.1 + 43) 2 1 (.int v) = some (zmk r c0 c1 c2 (va_up I 3 v) J Q N A Ga Va t) := (zpF_of mc_43 (Nat.le_of_ble_eq_true rfl)).trans rfl
theorem mc_44 : (zmk r c0 c1 c2 I J Q N A Ga Va t)[44]? = some (.inl (1098, Q 10)) := rfl
theorem ms_44 (f : Nat → Int32) : (zmk r c0 c1 c2 I J Q N A Ga Va t).set 44 (.inl (1098, f)) = zmk r c0 c1 c2 I J (va_up Q 10 f) N A Ga Va t := rfl
theorem ma_44 {j : Nat} (hj : j < 1098) : zaI r (zmk r c0 c1 c2 I J Q N A Ga Va t) (r.1 + 44) (nI j) = some (Q 10 j) := zaI_of mc_44 hj (by decide)
theorem mw_44 {j : Nat} {v : Int32} (hj : j < 1098) : zsI r (zmk r c0 c1 c2 I J Q N A Ga Va t) (r.1 + 44) (nI j) v = some (zmk r c0 c1 c2 I J (va_up Q 10 (upd (Q 10) j v)) N A Ga Va t) := (zsI_of mc_44 hj (by decide)).trans rfl
theorem mn_44 : zaN r (zmk r c0 c1 c2 I J Q N A Ga Va t) (r.1 + 44) = some 1098 := zaN_of mc_44
theorem mc_45 : (zmk r c0 c1 c2 I J Q N A Ga Va t)[45]? = some (.inr (.inr (2, [.ref (r.1 + 46), .int (I 4)]))) := rfl
theorem mo_45 : zob r (zmk r c0 c1 c2 I J Q N A Ga Va t) (r.1 + 45) 2 = true := zob_of mc_45
theorem mg_45_0 : zgR r (zmk r c0 c1 c2 I J Q N A Ga Va t) (r.1 + 45) 2 0 = some (r.1 + 46) := zgR_of mc_45 rfl
theorem mg_45_1 : zgI r (zmk r c0 c1 c2 I J Q N A Ga Va t) (r.1 + 45) 2 1 = some (I 4) := zgI_of mc_45 rfl
theorem mp_45_1 (v : Int32) : zpF r (zmk r c0 c1 c2 I J Q N A Ga Va t) (r.1 + 45) 2 1 (.int v) = some (zmk r c0 c1 c2 (va_up I 4 v) J Q N A Ga Va t) := (zpF_of mc_45 (Nat.le_of_ble_eq_true rfl)).trans rfl
theorem mc_46 : (zmk r c0 c1 c2 I J Q N A Ga Va t)[46]? = some (.inl (1098, Q 11)) := rfl
theorem ms_46 (f : Nat → Int32) : (zmk r c0 c1 c2 I J Q N A Ga Va t).set 46 (.inl (1098, f)) = zmk r c0 c1 c2 I J (va_up Q 11 f) N A Ga Va t := rfl
theorem ma_46 {j : Nat} (hj : j < 1098) : zaI r (zmk r c0 c1 c2 I J Q N A Ga Va t) (r.1 + 46) (nI j) = some (Q 11 j) := zaI_of mc_46 hj (by decide)
theorem mw_46 {j : Nat} {v : Int32} (hj : j < 1098) : zsI r (zmk r c0 c1 c2 I J Q N A Ga Va t) (r.1 + 46) (nI j) v = some (zmk r c0 c1 c2 I J (va_up Q 11 (upd (Q 11) j v)) N A Ga Va t) := (zsI_of mc_46 hj (by decide)).trans rfl
theorem mn_46 : zaN r (zmk r c0 c1 c2 I J Q N A Ga Va t) (r.1 + 46) = some 1098 := zaN_of mc_46
theorem mc_47 : (zmk r c0 c1 c2 I J Q N A Ga Va t)[47]? = some (.inr (.inr (2, [.ref (r.1 + 48), .int (I 5)]))) := rfl
theorem mo_47 : zob r (zmk r c0 c1 c2 I J Q N A Ga Va t) (r.1 + 47) 2 = true := zob_of mc_47
theorem mg_47_0 : zgR r (zmk r c0 c1 c2 I J Q N A Ga Va t) (r.1 + 47) 2 0 = some (r.1 + 48) := zgR_of mc_47 rfl
theorem mg_47_1 : zgI r (zmk r c0 c1 c2 I J Q N A Ga Va t) (r.1 + 47) 2 1 = some (I 5) := zgI_of mc_47 rfl
theorem mp_47_1 (v : Int32) : zpF r (zmk r c0 c1 c2 I J Q N A Ga Va t) (r.1 + 47) 2 1 (.int v) = some (zmk r c0 c1 c2 (va_up I 5 v) J Q N A Ga Va t) := (zpF_of mc_47 (Nat.le_of_ble_eq_true rfl)).trans rfl
theorem mc_48 : (zmk r c0 c1 c2 I J Q N A Ga Va t)[48]? = some (.inl (1098, Q 12)) := rfl
theorem ms_48 (f : Nat → Int32) : (zmk r c0 c1 c2 I J Q N A Ga Va t).set 48 (.inl (1098, f)) = zmk r c0 c1 c2 I J (va_up Q 12 f) N A Ga Va t := rfl
theorem ma_48 {j : Nat} (hj : j < 1098) : zaI r (zmk r c0 c1 c2 I J Q N A Ga Va t) (r.1 + 48) (nI j) = some (Q 12 j) := zaI_of mc_48 hj (by decide)
theorem mw_48 {j : Nat} {v : Int32} (hj : j < 1098) : zsI r (zmk r c0 c1 c2 I J Q N A Ga Va t) (r.1 + 48) (nI j) v = some (zmk r c0 c1 c2 I J (va_up Q 12 (upd (Q 12) j v)) N A Ga Va t) := (zsI_of mc_48 hj (by decide)).trans rfl
theorem mn_48 : zaN r (zmk r c0 c1 c2 I J Q N A Ga Va t) (r.1 + 48) = some 1098 := zaN_of mc_48
theorem mc_49 : (zmk r c0 c1 c2 I J Q N A Ga Va t)[49]? = some (.inl (27, Ga)) := rfl
theorem ms_49 (f : Nat → Int32) : (zmk r c0 c1 c2 I J Q N A Ga Va t).set 49 (.inl (27, f)) = zmk r c0 c1 c2 I J Q N A (f) Va t := rfl
theorem ma_49 {j : Nat} (hj : j < 27) : zaI r (zmk r c0 c1 c2 I J Q N A Ga Va t) (r.1 + 49) (nI j) = some (Ga j) := zaI_of mc_49 hj (by decide)
theorem mw_49 {j : Nat} {v : Int32} (hj : j < 27) : zsI r (zmk r c0 c1 c2 I J Q N A Ga Va t) (r.1 + 49) (nI j) v = some (zmk r c0 c1 c2 I J Q N A (upd (Ga) j v) Va t) := (zsI_of mc_49 hj (by decide)).trans rfl
theorem mn_49 : zaN r (zmk r c0 c1 c2 I J Q N A Ga Va t) (r.1 + 49) = some 27 := zaN_of mc_49
theorem mc_50 : (zmk r c0 c1 c2 I J Q N A Ga Va t)[50]? = some (.inl (18, Va)) := rfl
theorem ms_50 (f : Nat → Int32) : (zmk r c0 c1 c2 I J Q N A Ga Va t).set 50 (.inl (18, f)) = zmk r c0 c1 c2 I J Q N A Ga (f) t := rfl
theorem ma_50 {j : Nat} (hj : j < 18) : zaI r (zmk r c0 c1 c2 I J Q N A Ga Va t) (r.1 + 50) (nI j) = some (Va j) := zaI_of mc_50 hj (by decide)
theorem mw_50 {j : Nat} {v : Int32} (hj : j < 18) : zsI r (zmk r c0 c1 c2 I J Q N A Ga Va t) (r.1 + 50) (nI j) v = some (zmk r c0 c1 c2 I J Q N A Ga (upd (Va) j v) t) := (zsI_of mc_50 hj (by decide)).trans rfl
theorem mn_50 : zaN r (zmk r c0 c1 c2 I J Q N A Ga Va t) (r.1 + 50) = some 18 := zaN_of mc_50
theorem mo_r {j : Nat} (hj : j < 6) : zob r (zmk r c0 c1 c2 I J Q N A Ga Va t) (r.1 + 23 + 2 * j) 4 = true := by
  match j, hj with
  | 0, _ => exact mo_23
  | 1, _ => exact mo_25
  | 2, _ => exact mo_27
  | 3, _ => exact mo_29
  | 4, _ => exact mo_31
  | 5, _ => exact mo_33
  | k + 6, h => exact absurd h (by omega)
theorem mgv_r {j : Nat} (hj : j < 6) : zgR r (zmk r c0 c1 c2 I J Q N A Ga Va t) (r.1 + 23 + 2 * j) 4 0 = some (r.1 + (24 + 2 * j)) := by
  match j, hj with
  | 0, _ => exact mg_23_0
  | 1, _ => exact mg_25_0
  | 2, _ => exact mg_27_0
  | 3, _ => exact mg_29_0
  | 4, _ => exact mg_31_0
  | 5, _ => exact mg_33_0
  | k + 6, h => exact absurd h (by omega)
theorem mgs_r {j : Nat} (hj : j < 6) : zgI r (zmk r c0 c1 c2 I J Q N A Ga Va t) (r.1 + 23 + 2 * j) 4 1 = some (I (6 + j)) := by
  match j, hj with
  | 0, _ => exact mg_23_1
  | 1, _ => exact mg_25_1
  | 2, _ => exact mg_27_1
  | 3, _ => exact mg_29_1
  | 4, _ => exact mg_31_1
  | 5, _ => exact mg_33_1
  | k + 6, h => exact absurd h (by omega)
theorem mps_r {j : Nat} {v : Int32} (hj : j < 6) : zpF r (zmk r c0 c1 c2 I J Q N A Ga Va t) (r.1 + 23 + 2 * j) 4 1 (.int v) = some (zmk r c0 c1 c2 (va_up I (6 + j) v) J Q N A Ga Va t) := by
  match j, hj with
  | 0, _ => exact mp_23_1 v
  | 1, _ => exact mp_25_1 v
  | 2, _ => exact mp_27_1 v
  | 3, _ => exact mp_29_1 v
  | 4, _ => exact mp_31_1 v
  | 5, _ => exact mp_33_1 v
  | k + 6, h => exact absurd h (by omega)
theorem mcv_r {j : Nat} (hj : j < 6) : (zmk r c0 c1 c2 I J Q N A Ga Va t)[24 + 2 * j]? = some (.inl (60, Q (13 + j))) := by
  match j, hj with
  | 0, _ => exact rfl
  | 1, _ => exact rfl
  | 2, _ => exact rfl
  | 3, _ => exact rfl
  | 4, _ => exact rfl
  | 5, _ => exact rfl
  | k + 6, h => exact absurd h (by omega)
theorem msv_r {j : Nat} (hj : j < 6) (f : Nat → Int32) : (zmk r c0 c1 c2 I J Q N A Ga Va t).set (24 + 2 * j) (.inl (60, f)) = zmk r c0 c1 c2 I J (va_up Q (13 + j) f) N A Ga Va t := by
  match j, hj with
  | 0, _ => exact rfl
  | 1, _ => exact rfl
  | 2, _ => exact rfl
  | 3, _ => exact rfl
  | 4, _ => exact rfl
  | 5, _ => exact rfl
  | k + 6, h => exact absurd h (by omega)
theorem mav_r {j i : Nat} (hj : j < 6) (hi : i < 60) : zaI r (zmk r c0 c1 c2 I J Q N A Ga Va t) (r.1 + (24 + 2 * j)) (nI i) = some (Q (13 + j) i) := zaI_of (mcv_r hj) hi (by omega)
theorem mwv_r {j i : Nat} {v : Int32} (hj : j < 6) (hi : i < 60) : zsI r (zmk r c0 c1 c2 I J Q N A Ga Va t) (r.1 + (24 + 2 * j)) (nI i) v = some (zmk r c0 c1 c2 I J (va_up Q (13 + j) (upd (Q (13 + j)) i v)) N A Ga Va t) := (zsI_of (mcv_r hj) hi (by omega)).trans (congrArg some (msv_r hj _))
theorem mnv_r {j : Nat} (hj : j < 6) : zaN r (zmk r c0 c1 c2 I J Q N A Ga Va t) (r.1 + (24 + 2 * j)) = some 60 := zaN_of (mcv_r hj)
theorem mo_t {j : Nat} (hj : j < 4) : zob r (zmk r c0 c1 c2 I J Q N A Ga Va t) (r.1 + 35 + 2 * j) 4 = true := by
  match j, hj with
  | 0, _ => exact mo_35
  | 1, _ => exact mo_37
  | 2, _ => exact mo_39
  | 3, _ => exact mo_41
  | k + 4, h => exact absurd h (by omega)
theorem mgv_t {j : Nat} (hj : j < 4) : zgR r (zmk r c0 c1 c2 I J Q N A Ga Va t) (r.1 + 35 + 2 * j) 4 0 = some (r.1 + (36 + 2 * j)) := by
  match j, hj with
  | 0, _ => exact mg_35_0
  | 1, _ => exact mg_37_0
  | 2, _ => exact mg_39_0
  | 3, _ => exact mg_41_0
  | k + 4, h => exact absurd h (by omega)
theorem mgs_t {j : Nat} (hj : j < 4) : zgI r (zmk r c0 c1 c2 I J Q N A Ga Va t) (r.1 + 35 + 2 * j) 4 1 = some (I (12 + j)) := by
  match j, hj with
  | 0, _ => exact mg_35_1
  | 1, _ => exact mg_37_1
  | 2, _ => exact mg_39_1
  | 3, _ => exact mg_41_1
  | k + 4, h => exact absurd h (by omega)
theorem mps_t {j : Nat} {v : Int32} (hj : j < 4) : zpF r (zmk r c0 c1 c2 I J Q N A Ga Va t) (r.1 + 35 + 2 * j) 4 1 (.int v) = some (zmk r c0 c1 c2 (va_up I (12 + j) v) J Q N A Ga Va t) := by
  match j, hj with
  | 0, _ => exact mp_35_1 v
  | 1, _ => exact mp_37_1 v
  | 2, _ => exact mp_39_1 v
  | 3, _ => exact mp_41_1 v
  | k + 4, h => exact absurd h (by omega)
theorem mcv_t {j : Nat} (hj : j < 4) : (zmk r c0 c1 c2 I J Q N A Ga Va t)[36 + 2 * j]? = some (.inl (60, Q (19 + j))) := by
  match j, hj with
  | 0, _ => exact rfl
  | 1, _ => exact rfl
  | 2, _ => exact rfl
  | 3, _ => exact rfl
  | k + 4, h => exact absurd h (by omega)
theorem msv_t {j : Nat} (hj : j < 4) (f : Nat → Int32) : (zmk r c0 c1 c2 I J Q N A Ga Va t).set (36 + 2 * j) (.inl (60, f)) = zmk r c0 c1 c2 I J (va_up Q (19 + j) f) N A Ga Va t := by
  match j, hj with
  | 0, _ => exact rfl
  | 1, _ => exact rfl
  | 2, _ => exact rfl
  | 3, _ => exact rfl
  | k + 4, h => exact absurd h (by omega)
theorem mav_t {j i : Nat} (hj : j < 4) (hi : i < 60) : zaI r (zmk r c0 c1 c2 I J Q N A Ga Va t) (r.1 + (36 + 2 * j)) (nI i) = some (Q (19 + j) i) := zaI_of (mcv_t hj) hi (by omega)
theorem mwv_t {j i : Nat} {v : Int32} (hj : j < 4) (hi : i < 60) : zsI r (zmk r c0 c1 c2 I J Q N A Ga Va t) (r.1 + (36 + 2 * j)) (nI i) v = some (zmk r c0 c1 c2 I J (va_up Q (19 + j) (upd (Q (19 + j)) i v)) N A Ga Va t) := (zsI_of (mcv_t hj) hi (by omega)).trans (congrArg some (msv_t hj _))
theorem mnv_t {j : Nat} (hj : j < 4) : zaN r (zmk r c0 c1 c2 I J Q N A Ga Va t) (r.1 + (36 + 2 * j)) = some 60 := zaN_of (mcv_t hj)
theorem mo_k {j : Nat} (hj : j < 3) : zob r (zmk r c0 c1 c2 I J Q N A Ga Va t) (r.1 + 43 + 2 * j) 2 = true := by
  match j, hj with
  | 0, _ => exact mo_43
  | 1, _ => exact mo_45
  | 2, _ => exact mo_47
  | k + 3, h => exact absurd h (by omega)
theorem mgv_k {j : Nat} (hj : j < 3) : zgR r (zmk r c0 c1 c2 I J Q N A Ga Va t) (r.1 + 43 + 2 * j) 2 0 = some (r.1 + (44 + 2 * j)) := by
  match j, hj with
  | 0, _ => exact mg_43_0
  | 1, _ => exact mg_45_0
  | 2, _ => exact mg_47_0
  | k + 3, h => exact absurd h (by omega)
theorem mgs_k {j : Nat} (hj : j < 3) : zgI r (zmk r c0 c1 c2 I J Q N A Ga Va t) (r.1 + 43 + 2 * j) 2 1 = some (I (3 + j)) := by
  match j, hj with
  | 0, _ => exact mg_43_1
  | 1, _ => exact mg_45_1
  | 2, _ => exact mg_47_1
  | k + 3, h => exact absurd h (by omega)
theorem mps_k {j : Nat} {v : Int32} (hj : j < 3) : zpF r (zmk r c0 c1 c2 I J Q N A Ga Va t) (r.1 + 43 + 2 * j) 2 1 (.int v) = some (zmk r c0 c1 c2 (va_up I (3 + j) v) J Q N A Ga Va t) := by
  match j, hj with
  | 0, _ => exact mp_43_1 v
  | 1, _ => exact mp_45_1 v
  | 2, _ => exact mp_47_1 v
  | k + 3, h => exact absurd h (by omega)
theorem mcv_k {j : Nat} (hj : j < 3) : (zmk r c0 c1 c2 I J Q N A Ga Va t)[44 + 2 * j]? = some (.inl (1098, Q (10 + j))) := by
  match j, hj with
  | 0, _ => exact rfl
  | 1, _ => exact rfl
  | 2, _ => exact rfl
  | k + 3, h => exact absurd h (by omega)
theorem msv_k {j : Nat} (hj : j < 3) (f : Nat → Int32) : (zmk r c0 c1 c2 I J Q N A Ga Va t).set (44 + 2 * j) (.inl (1098, f)) = zmk r c0 c1 c2 I J (va_up Q (10 + j) f) N A Ga Va t := by
  match j, hj with
  | 0, _ => exact rfl
  | 1, _ => exact rfl
  | 2, _ => exact rfl
  | k + 3, h => exact absurd h (by omega)
theorem mav_k {j i : Nat} (hj : j < 3) (hi : i < 1098) : zaI r (zmk r c0 c1 c2 I J Q N A Ga Va t) (r.1 + (44 + 2 * j)) (nI i) = some (Q (10 + j) i) := zaI_of (mcv_k hj) hi (by omega)
theorem mwv_k {j i : Nat} {v : Int32} (hj : j < 3) (hi : i < 1098) : zsI r (zmk r c0 c1 c2 I J Q N A Ga Va t) (r.1 + (44 + 2 * j)) (nI i) v = some (zmk r c0 c1 c2 I J (va_up Q (10 + j) (upd (Q (10 + j)) i v)) N A Ga Va t) := (zsI_of (mcv_k hj) hi (by omega)).trans (congrArg some (msv_k hj _))
theorem mnv_k {j : Nat} (hj : j < 3) : zaN r (zmk r c0 c1 c2 I J Q N A Ga Va t) (r.1 + (44 + 2 * j)) = some 1098 := zaN_of (mcv_k hj)
end ZMK
end
section
/-! MEANINGS: what is told of a deck, as formulas; the crew's and the berths' methods -/
theorem zloop {α β : Type} (F : Nat → α → β) (res : α → β) (f : α → Nat → α) (N : Nat) (hs : ∀ j a, j < N → F j a = F (j + 1) (f a j)) (he : ∀ a, F N a = res a) (a : α) : F 0 a = res (zfd f 0 N a) := by
  suffices H : ∀ n j a, j + n = N → F j a = res (zfd f j n a) from H N 0 a (by omega)
  intro n
  induction n with
  | zero => intro j a e; rw [show j = N by omega, he]; rfl
  | succ n ih => intro j a e; rw [hs j a (by omega), ih (j + 1) (f a j) (by omega)]; rfl
theorem zloopP {α β : Type} (P : Nat → α → Prop) (F : Nat → α → β) (res : α → β) (f : α → Nat → α) (N : Nat) (hs : ∀ j a, j < N → P j a → F j a = F (j + 1) (f a j) ∧ P (j + 1) (f a j)) (he : ∀ a, P N a → F N a = res a) (a : α) (h0 : P 0 a) : F 0 a = res (zfd f 0 N a) ∧ P N (zfd f 0 N a) := by
  suffices H : ∀ n j a, j + n = N → P j a → F j a = res (zfd f j n a) ∧ P N (zfd f j n a) from H N 0 a (by omega) h0
  intro n
  induction n with
  | zero => intro j a e p; have q : j = N := by omega
            subst q; exact ⟨he a p, p⟩
  | succ n ih => intro j a e p; obtain ⟨e1, p1⟩ := hs j a (by omega) p
                 rw [e1]; exact ih (j + 1) (f a j) (by omega) p1
/-- a loop that may end early: `F j = some answer` or goes on -/
theorem zloopS {α β : Type} (P : Nat → α → Prop) (Q : β → Prop) (F : Nat → α → β) (N : Nat) (hs : ∀ j a, j < N → P j a → Q (F j a) ∨ ∃ b, F j a = F (j + 1) b ∧ P (j + 1) b) (he : ∀ a, P N a → Q (F N a)) (a : α) (h0 : P 0 a) : Q (F 0 a) := by
  suffices H : ∀ n j a, j + n = N → P j a → Q (F j a) from H N 0 a (by omega) h0
  intro n
  induction n with
  | zero => intro j a e p; have q : j = N := by omega
            subst q; exact he a p
  | succ n ih => intro j a e p; rcases hs j a (by omega) p with q | ⟨b, e1, p1⟩
                 · exact q
                 · rw [e1]; exact ih (j + 1) b (by omega) p1
abbrev zA : Type := Nat → Int32
/-- hooks, men; places, kinds, watches, messes -/
abbrev zCs : Type := Nat × Nat × zA × zA × zA × zA
/-- a hook's or man's number that is there -/
def zhk (n : Nat) (i : Int32) : Int32 := if i < 0 then 0 else if i < nI n then 1 else 0
theorem zhk_none (n : Nat) : zhk n (-9) = 0 := by
  unfold zhk
  rw [if_pos (by decide)]
theorem zhk_in {n j : Nat} (h : j < n) (hn : n < 2 ^ 31) : zhk n (nI j) = 1 := by
  unfold zhk
  rw [if_neg (nI_pos (by omega)), if_pos (nI_lt h hn)]
theorem zhk_out {n j : Nat} (h : n ≤ j) (hj : j < 2 ^ 31) : zhk n (nI j) = 0 := by
  unfold zhk
  rw [if_neg (nI_pos (by omega)), if_neg (nI_nlt h hj)]
theorem zhk_cases (n : Nat) (hn : n < 2 ^ 31) (i : Int32) : zhk n i = 0 ∨ zhk n i = 1 ∧ ∃ j, j < n ∧ i = nI j := by
  by_cases h : i < 0
  · exact .inl (by unfold zhk; rw [if_pos h])
  · obtain ⟨j, hj, rfl⟩ := nI_of h
    by_cases h2 : j < n
    · exact .inr ⟨zhk_in h2 hn, j, h2, rfl⟩
    · exact .inl (zhk_out (by omega) hj)
theorem i01 : ¬ (1 : Int32) = 0 := by decide
theorem nI_n9 {j : Nat} (h : j < 2 ^ 31) : ¬ nI j = -9 := fun e => nI_pos h (by rw [e]; decide)
def sIn (C : zCs) (H : zA) (m : Nat) (w : Int32) : Int32 := if H m = -9 then 0 else if w = 0 then 1 else if C.2.2.2.2.1 m = w - 1 then 0 else 1
def sBes (C : zCs) (H : zA) (k m : Nat) (w : Int32) : Int32 := if H m = -9 then 0 else if sIn C H k w = 0 then 0 else if H k - H m = 1 then 1 else if H k - H m = -1 then 1 else 0
def sHt (k : Int32) : Int32 := if k = 4 then 2 else if k = 1 then 1 else 0
def sPw (p : Int32) : Int32 := if p = 1 then 1 else if p = 2 then 3 else if p = 3 then 2 else if p = 4 then -1 else 0
def sWk (C : zCs) (L : zA) (k m : Nat) : Int32 := (if L m < L k then L k - L m else L m - L k) + sHt (C.2.2.2.1 k) + sHt (C.2.2.2.1 m) + (if C.2.2.2.1 k = 2 then if C.2.2.2.1 m = 3 then 0 else 2 else 0)
def sSu (C : zCs) (H L : zA) (m : Nat) (w b : Int32) : Int32 := zfd (fun a k => a + (if nI k = b then 0 else if sBes C H k m w = 0 then 0 else sWk C L k m)) 0 C.2.1 (sPw (C.2.2.1 (H m).toNatClampNeg))
def sWo (C : zCs) (H L : zA) (m : Nat) (w b : Int32) : Int32 := if sIn C H m w = 0 then 0 else if C.2.2.2.1 m = 5 then 2 * (if sSu C H L m w b < 0 then 0 else sSu C H L m w b) else if sSu C H L m w b < 0 then 0 else sSu C H L m w b
def sAll (C : zCs) (H L : zA) (w : Int32) : Int32 := zfd (fun a m => a + sWo C H L m w (-9)) 0 C.2.1 0
def sMost (C : zCs) (H L : zA) (w : Int32) : Int32 := zfd (fun a m => if a < sWo C H L m w (-9) then sWo C H L m w (-9) else a) 0 C.2.1 0
def sMany (C : zCs) (H : zA) (w : Int32) : Int32 := zfd (fun a m => if sIn C H m w = 0 then a else a + 1) 0 C.2.1 0
def sBe (C : zCs) (H : zA) (m : Nat) (w : Int32) : Int32 := zfd (fun a k => a ||| (if sBes C H k m w = 0 then 0 else (1 : Int32) <<< (nI k &&& 31))) 0 C.2.1 0
def sOf (C : zCs) (m : Nat) (kind : Int32) : Int32 := if C.2.2.2.1 m = kind then 1 else if kind = 1 then if C.2.2.2.1 m = 4 then 1 else 0 else 0
def sTall (C : zCs) : Int32 := zfd (fun a m => if sOf C m 1 = 0 then a else a + 1) 0 C.2.1 0
def sBits (C : zCs) (kind : Int32) : Int32 := zfd (fun a m => if sOf C m kind = 0 then a else a ||| ((1 : Int32) <<< (nI m &&& 31))) 0 C.2.1 0
def sPlans (C : zCs) : Int32 := zfd (fun a m => a * (nI C.1 - nI m)) 0 C.2.1 1
/-- the first man from j on whose hook it is -/
def sWho (H : zA) (v : Int32) : Nat → Nat → Int32
  | _, 0 => -9
  | j, n + 1 => if H j = v then nI j else sWho H v (j + 1) n
/-- a crew's object at c -/
def zCv (r : zE) (c : Nat) (C : zCs) (h : zH) : Prop :=
  zob r h c 1 = true ∧ zgI r h c 1 0 = some (nI C.1) ∧ zgI r h c 1 1 = some (nI C.2.1) ∧ zgR r h c 1 2 = some (c + 1) ∧ zgR r h c 1 3 = some (c + 2) ∧ zgR r h c 1 5 = some (c + 4) ∧ zgR r h c 1 6 = some (c + 5) ∧
  (∀ j, j < C.1 → zaI r h (c + 1) (nI j) = some (C.2.2.1 j)) ∧ (∀ j, j < C.2.1 → zaI r h (c + 2) (nI j) = some (C.2.2.2.1 j)) ∧ (∀ j, j < C.2.1 → zaI r h (c + 4) (nI j) = some (C.2.2.2.2.1 j)) ∧ (∀ j, j < C.2.1 → zaI r h (c + 5) (nI j) = some (C.2.2.2.2.2 j))
def zCk (C : zCs) : Prop := C.1 ≤ 7 ∧ C.2.1 ≤ 6 ∧ C.2.1 ≤ C.1 ∧ (∀ h, h < C.1 → ∃ p, p < 5 ∧ C.2.2.1 h = nI p) ∧ ∀ m, m < C.2.1 → ∃ k, k < 6 ∧ C.2.2.2.1 m = nI k
/-- the class's constant arrays -/
def zEk (r : zE) : Prop := (∀ i, i < 4 → ¬ r.1 ≤ r.2.2 i) ∧ r.2.1 (r.2.2 0) = some (false, 6, zKB) ∧ r.2.1 (r.2.2 1) = some (true, 6, zKL) ∧ r.2.1 (r.2.2 2) = some (true, 5, zPL) ∧ r.2.1 (r.2.2 3) = some (false, 5, zPW)
section CREW
variable {r : zE} {c : Nat} {C : zCs} {h : zH}
theorem cr_hook (v : zCv r c C h) (i : Int32) : zev r i_X1_hasHook 0 [some (.ref c), some (.int i)] [] h = some (some (.int (zhk C.1 i)), h) := by
  obtain ⟨-, e, -⟩ := v
  rw [E_X1_hasHook_0, e]
  simp only [Option.bind_some, zhk]
  repeat' split
  all_goals rfl
theorem cr_man (v : zCv r c C h) (i : Int32) : zev r i_X1_hasMan 0 [some (.ref c), some (.int i)] [] h = some (some (.int (zhk C.2.1 i)), h) := by
  obtain ⟨-, -, e, -⟩ := v
  rw [E_X1_hasMan_0, e]
  simp only [Option.bind_some, zhk]
  repeat' split
  all_goals rfl
theorem cr_plans (v : zCv r c C h) (k : zCk C) : zev r i_X1_planCount 0 [some (.ref c), none, none] [] h = some (some (.int (sPlans C)), h) := by
  obtain ⟨-, e, e2, -⟩ := v
  obtain ⟨k1, k2, -⟩ := k
  rw [E_X1_planCount_0]
  refine zloop (fun j (a : Int32) => zev r i_X1_planCount 4 [some (.ref c), some (.int a), some (.int (nI j))] [] h) (fun a => some (some (.int a), h)) _ C.2.1 (fun j a hj => ?_) (fun a => ?_) 1
  · refine (E_X1_planCount_4 ..).trans ?_
    simp only [e, e2, Option.bind_some, if_pos (nI_lt hj (show C.2.1 < 2 ^ 31 by omega)), nI_1]
  · refine (E_X1_planCount_4 ..).trans ?_
    simp only [e2, Option.bind_some, if_neg (nI_nlt (Nat.le_refl _) (show C.2.1 < 2 ^ 31 by omega))]
theorem cr_of (v : zCv r c C h) {m : Nat} (hm : m < C.2.1) (i : Int32) : zev r i_X1_isOf 0 [some (.ref c), some (.int (nI m)), some (.int i)] [] h = some (some (.int (sOf C m i)), h) := by
  obtain ⟨-, -, -, -, e, -, -, -, e2, -⟩ := v
  simp only [E_X1_isOf_0, e, Option.bind_some, e2 m hm, sOf]
  repeat' split
  all_goals rfl
theorem cr_bits (v : zCv r c C h) (k : zCk C) (i : Int32) : zev r i_X1_bitsOf 0 [some (.ref c), some (.int i), none, none] [] h = some (some (.int (sBits C i)), h) := by
  have v0 := v
  obtain ⟨o, -, e2, -⟩ := v
  obtain ⟨k1, k2, -⟩ := k
  rw [E_X1_bitsOf_0]
  refine zloop (fun j (a : Int32) => zev r i_X1_bitsOf 4 [some (.ref c), some (.int i), some (.int a), some (.int (nI j))] [] h) (fun a => some (some (.int a), h)) _ C.2.1 (fun j a hj => ?_) (fun a => ?_) 0
  · refine (E_X1_bitsOf_4 ..).trans ?_
    simp only [o, e2, Option.bind_some, if_pos (nI_lt hj (show C.2.1 < 2 ^ 31 by omega)), if_true, nI_1, cr_of v0 hj, zcI_some]
    split <;> rfl
  · refine (E_X1_bitsOf_4 ..).trans ?_
    simp only [e2, Option.bind_some, if_neg (nI_nlt (Nat.le_refl _) (show C.2.1 < 2 ^ 31 by omega))]
theorem cr_bulk (v : zCv r c C h) (k : zCk C) (E : zEk r) {m : Nat} (hm : m < C.2.1) : zev r i_X1_bulk 0 [some (.ref c), some (.int (nI m))] [] h = some (some (.int (sHt (C.2.2.2.1 m))), h) := by
  obtain ⟨-, -, -, -, e, -, -, -, e2, -⟩ := v
  obtain ⟨-, -, -, -, k5⟩ := k
  obtain ⟨q, hq, eq⟩ := k5 m hm
  obtain ⟨f1, f2, -⟩ := E
  simp only [E_X1_bulk_0, e, Option.bind_some, e2 m hm, eq, zaI_old (f1 0 (by decide)) f2 hq (by decide)]
  have : ∀ q, q < 6 → zKB q = sHt (nI q) := by decide +kernel
  rw [this q hq]
theorem cr_wakes (v : zCv r c C h) (k : zCk C) (E : zEk r) {j : Nat} (hm : j < C.1) : zev r i_X1_placeWakes 0 [some (.ref c), some (.int (nI j))] [] h = some (some (.int (sPw (C.2.2.1 j))), h) := by
  obtain ⟨-, -, -, e, -, -, -, e2, -⟩ := v
  obtain ⟨-, -, -, k5, -⟩ := k
  obtain ⟨q, hq, eq⟩ := k5 j hm
  obtain ⟨f1, -, -, -, f2⟩ := E
  simp only [E_X1_placeWakes_0, e, Option.bind_some, e2 j hm, eq, zaI_old (f1 3 (by decide)) f2 hq (by decide)]
  have : ∀ q, q < 5 → zPW q = sPw (nI q) := by decide +kernel
  rw [this q hq]
end CREW
end
section
/-! BERTHS: what they tell -/
/-- berths at x, of the crew at c -/
def zBx (r : zE) (x c : Nat) (C : zCs) (F : zBr → zH) : Prop := ∀ B : zBr,
  zCv r c C (F B) ∧ zob r (F B) x 0 = true ∧ zgR r (F B) x 0 0 = some c ∧ zgR r (F B) x 0 1 = some (x + 1) ∧ zgR r (F B) x 0 2 = some (x + 2) ∧ zgR r (F B) x 0 3 = some (x + 3) ∧ zgR r (F B) x 0 4 = some (x + 4) ∧
  (∀ j, j < 6 → zaI r (F B) (x + 1) (nI j) = some (B.1 j)) ∧ (∀ j, j < 7 → zaI r (F B) (x + 2) (nI j) = some (B.2.1 j)) ∧ (∀ j, j < 6 → zaI r (F B) (x + 3) (nI j) = some (B.2.2.1 j)) ∧ (∀ j, j < 6 → zaI r (F B) (x + 4) (nI j) = some (B.2.2.2 j)) ∧
  (∀ j y, j < 6 → zsI r (F B) (x + 1) (nI j) y = some (F (upd B.1 j y, B.2.1, B.2.2.1, B.2.2.2))) ∧ (∀ j y, j < 7 → zsI r (F B) (x + 2) (nI j) y = some (F (B.1, upd B.2.1 j y, B.2.2.1, B.2.2.2))) ∧ (∀ j y, j < 6 → zsI r (F B) (x + 3) (nI j) y = some (F (B.1, B.2.1, upd B.2.2.1 j y, B.2.2.2))) ∧ (∀ j y, j < 6 → zsI r (F B) (x + 4) (nI j) y = some (F (B.1, B.2.1, B.2.2.1, upd B.2.2.2 j y))) ∧
  zaN r (F B) (x + 1) = some 6 ∧ zaN r (F B) (x + 2) = some 7
/-- hooks and holders tell the same -/
def zCG (C : zCs) (H G : zA) : Prop := (∀ m, m < C.2.1 → H m = -9 ∨ ∃ j, j < C.1 ∧ H m = nI j ∧ G j = nI m) ∧ ∀ j, j < C.1 → G j = -9 ∨ ∃ m, m < C.2.1 ∧ G j = nI m ∧ H m = nI j
def zLk (C : zCs) (L : zA) : Prop := ∀ m, m < C.2.1 → ∃ a, a < 10 ∧ L m = nI a
/-- what one on hook y brings -/
def sAt (C : zCs) (H G : zA) (y w : Int32) (u : Nat → Int32) : Int32 := if zhk C.1 y = 0 then 0 else if zhk C.2.1 (G y.toNatClampNeg) = 0 then 0 else if sIn C H (G y.toNatClampNeg).toNatClampNeg w = 0 then 0 else u (G y.toNatClampNeg).toNatClampNeg
/-! folds where at most one place counts -/
theorem zfd_zero {op : Int32 → Int32 → Int32} (h0 : ∀ a, op a 0 = a) {q : Nat → Int32} : ∀ {n j : Nat} {a : Int32}, (∀ k, j ≤ k → k < j + n → q k = 0) → zfd (fun a k => op a (q k)) j n a = a
  | 0, _, _, _ => rfl
  | n + 1, j, a, h => by
    rw [zfd, h j (Nat.le_refl _) (by omega), h0]
    exact zfd_zero h0 fun k h1 h2 => h k (by omega) (by omega)
theorem zfd_acc {op : Int32 → Int32 → Int32} (ha : ∀ a b c, op (op a b) c = op a (op b c)) (h0 : ∀ a, op a 0 = a) (hc : ∀ a b, op a b = op b a) {q : Nat → Int32} : ∀ {n j : Nat} {a : Int32}, zfd (fun a k => op a (q k)) j n a = op a (zfd (fun a k => op a (q k)) j n 0)
  | 0, _, _ => by simp only [zfd, h0]
  | n + 1, j, a => by
    rw [zfd, zfd, zfd_acc ha h0 hc (a := op a (q j)), zfd_acc ha h0 hc (a := op 0 (q j)), hc 0 (q j), h0, ha]
theorem zfd_two {op : Int32 → Int32 → Int32} (ha : ∀ a b c, op (op a b) c = op a (op b c)) (h0 : ∀ a, op a 0 = a) (hc : ∀ a b, op a b = op b a) {q q1 q2 : Nat → Int32} : ∀ {n j : Nat}, (∀ k, j ≤ k → k < j + n → q k = op (q1 k) (q2 k)) → zfd (fun a k => op a (q k)) j n 0 = op (zfd (fun a k => op a (q1 k)) j n 0) (zfd (fun a k => op a (q2 k)) j n 0)
  | 0, _, _ => by simp only [zfd, h0]
  | n + 1, j, h => by
    have e : ∀ z, op 0 z = z := fun z => by rw [hc, h0]
    rw [zfd, zfd, zfd, zfd_acc ha h0 hc, zfd_acc ha h0 hc (q := q1), zfd_acc ha h0 hc (q := q2), zfd_two ha h0 hc (q := q) (q1 := q1) (q2 := q2) (fun k h1 h2 => h k (by omega) (by omega)), h j (Nat.le_refl _) (by omega)]
    generalize zfd (fun a k => op a (q1 k)) (j + 1) n 0 = s1
    generalize zfd (fun a k => op a (q2 k)) (j + 1) n 0 = s2
    rw [e, e, e, ha, ha, ← ha (q2 j), hc (q2 j) s1, ha s1]
theorem zfd_one {op : Int32 → Int32 → Int32} (h0 : ∀ a, op a 0 = a) (hc : ∀ a b, op a b = op b a) {q : Nat → Int32} {i : Nat} : ∀ {n j : Nat}, j ≤ i → i < j + n → (∀ k, j ≤ k → k < j + n → k ≠ i → q k = 0) → zfd (fun a k => op a (q k)) j n 0 = q i
  | 0, j, h1, h2, _ => by omega
  | n + 1, j, h1, h2, h => by
    have e : ∀ z, op 0 z = z := fun z => by rw [hc, h0]
    rw [zfd, e]
    by_cases c : j = i
    · subst c
      exact zfd_zero h0 fun k h3 h4 => h k (by omega) (by omega) (by omega)
    · rw [h j (Nat.le_refl _) (by omega) c]
      exact zfd_one h0 hc (by omega) (by omega) fun k h3 h4 h5 => h k (by omega) (by omega) h5
theorem zCG_inj {C : zCs} {H G : zA} (g : zCG C H G) {m k j : Nat} (kC : zCk C) (hm : m < C.2.1) (hk : k < C.2.1) (hj : j < C.1) (e1 : H m = nI j) (e2 : H k = nI j) : m = k := by
  obtain ⟨k1, k2, -⟩ := kC
  rcases g.1 m hm with c | ⟨j1, a1, b1, d1⟩
  · exact absurd (e1.symm.trans c) (nI_n9 (by omega))
  rcases g.1 k hk with c | ⟨j2, a2, b2, d2⟩
  · exact absurd (e2.symm.trans c) (nI_n9 (by omega))
  have p1 : j1 = j := (nI_eq (by omega) (by omega)).mp (b1.symm.trans e1)
  have p2 : j2 = j := (nI_eq (by omega) (by omega)).mp (b2.symm.trans e2)
  subst p1 p2
  exact (nI_eq (by omega) (by omega)).mp (d1.symm.trans d2)
theorem sAt_fold {op : Int32 → Int32 → Int32} (h0 : ∀ a, op a 0 = a) (hc : ∀ a b, op a b = op b a) {C : zCs} {H G : zA} (g : zCG C H G) (kC : zCk C) (y w : Int32) (hy : ¬ y = -9) (u : Nat → Int32) :
    zfd (fun a k => op a (if H k = y then if sIn C H k w = 0 then 0 else u k else 0)) 0 C.2.1 0 = sAt C H G y w u := by
  obtain ⟨k1, k2, k3, -⟩ := id kC
  unfold sAt
  rcases zhk_cases C.1 (by omega) y with e | ⟨e, j, hj, rfl⟩
  · rw [if_pos e]
    refine zfd_zero h0 fun k _ hk => if_neg fun c => ?_
    rcases g.1 k (by omega) with q | ⟨j, a1, b1, -⟩
    · exact hy (c.symm.trans q)
    · rw [← c, b1, zhk_in a1 (by omega)] at e
      exact i01 e
  · rw [e, if_neg i01, nI_clamp (by omega)]
    rcases g.2 j hj with q | ⟨m, a1, b1, d1⟩
    · rw [q, zhk_none, if_pos rfl]
      refine zfd_zero h0 fun k _ hk => if_neg fun c => ?_
      rcases g.1 k (by omega) with q2 | ⟨j2, a2, b2, d2⟩
      · exact hy (c.symm.trans q2)
      · have : j2 = j := (nI_eq (by omega) (by omega)).mp (b2.symm.trans c)
        subst this
        exact nI_n9 (j := k) (by omega) (d2.symm.trans q)
    · rw [b1, zhk_in a1 (by omega), if_neg i01, nI_clamp (by omega)]
      rw [zfd_one (i := m) h0 hc (Nat.zero_le _) (by omega) fun k _ hk hn => if_neg fun c => hn (zCG_inj g kC (by omega) a1 hj c d1), if_pos d1]
theorem i32_sub1 {a b : Int32} : a - b = 1 ↔ a = b + 1 := ⟨fun e => by rw [← e, Int32.add_comm, Int32.sub_add_cancel], fun e => by rw [e, Int32.add_comm, Int32.add_sub_cancel]⟩
theorem i32_subm {a b : Int32} : a - b = -1 ↔ a = b - 1 := ⟨fun e => by rw [show a = a - b + b by rw [Int32.sub_add_cancel], e, Int32.add_comm, Int32.sub_eq_add_neg], fun e => by rw [e, Int32.sub_eq_add_neg b, Int32.add_comm, Int32.add_sub_cancel]⟩
theorem i32_pm (a : Int32) : ¬ a + 1 = a - 1 := fun q => by
  have h1 : a + 1 - a = 1 := i32_sub1.mpr rfl
  have h2 : a - 1 - a = -1 := i32_subm.mpr rfl
  rw [q, h2] at h1
  exact absurd h1 (by decide)
theorem sBes_op {C : zCs} {H : zA} {op : Int32 → Int32 → Int32} (h0 : ∀ a, op a 0 = a) (hc : ∀ a b, op a b = op b a) {m k : Nat} {w : Int32} (hm : ¬ H m = -9) (u : Int32) :
    (if sBes C H k m w = 0 then 0 else u) = op (if H k = H m - 1 then if sIn C H k w = 0 then 0 else u else 0) (if H k = H m + 1 then if sIn C H k w = 0 then 0 else u else 0) := by
  have e : ∀ z, op 0 z = z := fun z => by rw [hc, h0]
  unfold sBes
  rw [if_neg hm]
  by_cases c : sIn C H k w = 0
  · simp only [c, if_true, ite_self, h0]
  · simp only [c, if_false, i32_sub1, i32_subm]
    by_cases c1 : H k = H m + 1
    · simp only [c1, if_true, i01, if_false, i32_pm, e]
    · by_cases c2 : H k = H m - 1
      · simp only [c1, if_false, if_pos c2, i01, h0]
      · simp only [c1, c2, if_false, if_true, h0]
theorem sBe_at {C : zCs} {H G : zA} (g : zCG C H G) (kC : zCk C) {m : Nat} (hm : m < C.2.1) (w : Int32) (hn : ¬ H m = -9) : sBe C H m w = sAt C H G (H m - 1) w (fun k => (1 : Int32) <<< (nI k &&& 31)) ||| sAt C H G (H m + 1) w (fun k => (1 : Int32) <<< (nI k &&& 31)) := by
  have h0 : ∀ a : Int32, a ||| 0 = a := fun a => by simp
  have hc : ∀ a b : Int32, a ||| b = b ||| a := Int32.or_comm
  have ha : ∀ a b c : Int32, a ||| b ||| c = a ||| (b ||| c) := Int32.or_assoc
  obtain ⟨k1, k2, k3, -⟩ := id kC
  obtain ⟨j, hj, ej, -⟩ := (g.1 m hm).resolve_left hn
  have n1 : ¬ H m - 1 = -9 := by
    rw [ej]
    have : ∀ j, j < 7 → ¬ nI j - 1 = -9 := by decide +kernel
    exact this j (by omega)
  have n2 : ¬ H m + 1 = -9 := by
    rw [ej]
    have : ∀ j, j < 7 → ¬ nI j + 1 = -9 := by decide +kernel
    exact this j (by omega)
  unfold sBe
  rw [zfd_two (op := fun a b => a ||| b) ha h0 hc (fun k _ _ => sBes_op (op := fun a b => a ||| b) h0 hc hn _), sAt_fold (op := fun a b => a ||| b) h0 hc g kC _ _ n1, sAt_fold (op := fun a b => a ||| b) h0 hc g kC _ _ n2]
theorem sSu_at {C : zCs} {H G L : zA} (g : zCG C H G) (kC : zCk C) {m : Nat} (hm : m < C.2.1) (w : Int32) (hn : ¬ H m = -9) : sSu C H L m w (-9) = sPw (C.2.2.1 (H m).toNatClampNeg) + (sAt C H G (H m - 1) w (fun k => sWk C L k m) + sAt C H G (H m + 1) w (fun k => sWk C L k m)) := by
  have h0 : ∀ a : Int32, a + 0 = a := fun a => by simp
  have hc : ∀ a b : Int32, a + b = b + a := Int32.add_comm
  have ha : ∀ a b c : Int32, a + b + c = a + (b + c) := Int32.add_assoc
  obtain ⟨k1, k2, k3, -⟩ := id kC
  obtain ⟨j, hj, ej, -⟩ := (g.1 m hm).resolve_left hn
  have n1 : ¬ H m - 1 = -9 := by
    rw [ej]
    have : ∀ j, j < 7 → ¬ nI j - 1 = -9 := by decide +kernel
    exact this j (by omega)
  have n2 : ¬ H m + 1 = -9 := by
    rw [ej]
    have : ∀ j, j < 7 → ¬ nI j + 1 = -9 := by decide +kernel
    exact this j (by omega)
  unfold sSu
  rw [zfd_acc (op := fun a b => a + b) ha h0 hc, zfd_two (op := fun a b => a + b) (q1 := fun k => if H k = H m - 1 then if sIn C H k w = 0 then 0 else sWk C L k m else 0) (q2 := fun k => if H k = H m + 1 then if sIn C H k w = 0 then 0 else sWk C L k m else 0) ha h0 hc (fun k _ hk => by
    rw [if_neg (nI_n9 (by omega))]
    exact sBes_op (op := fun a b => a + b) h0 hc hn _), sAt_fold (op := fun a b => a + b) h0 hc g kC _ _ n1, sAt_fold (op := fun a b => a + b) h0 hc g kC _ _ n2]
end
section
/-! BERTHS: their telling methods run -/
section TELL
variable {r : zE} {x c : Nat} {C : zCs} {F : zBr → zH} {B : zBr}
theorem nI_lt6 {C : zCs} (k : zCk C) {j : Nat} (h : j < C.2.1) : nI j < nI C.2.1 := nI_lt h (by have := k.2.1; omega)
theorem nI_nlt6 {C : zCs} (k : zCk C) : ¬ nI C.2.1 < nI C.2.1 := nI_nlt (Nat.le_refl _) (by have := k.2.1; omega)
theorem b_in (b : zBx r x c C F) (k : zCk C) {m : Nat} (hm : m < C.2.1) (w : Int32) : zev r i_X0_isIn 0 [some (.ref x), some (.int (nI m)), some (.int w)] [] (F B) = some (some (.int (sIn C B.1 m w)), F B) := by
  obtain ⟨⟨-, -, -, -, -, v1, -, -, -, v2, -⟩, -, g0, g1, -, -, -, r1, -⟩ := b B
  have h6 : m < 6 := by have := k.2.1; omega
  simp only [E_X0_isIn_0, g0, g1, r1 m h6, Option.bind_some, v1, v2 m hm, sIn]
  repeat' split
  all_goals rfl
theorem b_hangs (b : zBx r x c C F) {m : Nat} (hm : m < 6) : zev r i_X0_hangs 0 [some (.ref x), some (.int (nI m))] [] (F B) = some (some (.int (if B.1 m = -9 then 0 else 1)), F B) := by
  obtain ⟨-, -, -, g1, -, -, -, r1, -⟩ := b B
  simp only [E_X0_hangs_0, g1, r1 m hm, Option.bind_some]
  repeat' split
  all_goals rfl
theorem b_free (b : zBx r x c C F) (k : zCk C) (i : Int32) : zev r i_X0_isFree 0 [some (.ref x), some (.int i)] [] (F B) = some (some (.int (if zhk C.1 i = 0 then 0 else if B.2.1 i.toNatClampNeg = -9 then 1 else 0)), F B) := by
  obtain ⟨v, -, g0, -, g2, -, -, -, r2, -⟩ := b B
  have k1 := k.1
  simp only [E_X0_isFree_0, g0, v.1, Option.bind_some, if_true, cr_hook v, zcI_some]
  rcases zhk_cases C.1 (by omega) i with e | ⟨e, j, hj, rfl⟩
  · simp only [e, if_true]
  · simp only [e, i01, if_false, g2, r2 j (by omega), Option.bind_some, nI_clamp (show j < 2 ^ 31 by omega)]
    repeat' split
    all_goals rfl
theorem b_bit (b : zBx r x c C F) (k : zCk C) (y w : Int32) : zev r i_X0_bitOfWhoIsInAt 0 [some (.ref x), some (.int y), some (.int w), none] [] (F B) = some (some (.int (sAt C B.1 B.2.1 y w fun k => (1 : Int32) <<< (nI k &&& 31))), F B) := by
  obtain ⟨v, o, g0, -, g2, -, -, -, r2, -⟩ := id (b B)
  have k1 := k.1
  have k2 := k.2.1
  simp only [E_X0_bitOfWhoIsInAt_0, g0, v.1, o, Option.bind_some, if_true, cr_hook v, zcI_some, sAt]
  rcases zhk_cases C.1 (by omega) y with e | ⟨e, j, hj, rfl⟩
  · simp only [e, if_true]
  · simp only [e, i01, if_false, g2, r2 j (by omega), Option.bind_some, nI_clamp (show j < 2 ^ 31 by omega), v.1, if_true, cr_man v, zcI_some]
    rcases zhk_cases C.2.1 (by omega) (B.2.1 j) with e2 | ⟨e2, m, hm, e3⟩
    · simp only [e2, if_true]
    · rw [e3] at e2
      simp only [e2, e3, i01, if_false, o, if_true, b_in b k hm, zcI_some, nI_clamp (show m < 2 ^ 31 by omega)]
      repeat' split
      all_goals rfl
theorem b_neigh (b : zBx r x c C F) (k : zCk C) (g : zCG C B.1 B.2.1) {m : Nat} (hm : m < C.2.1) (w : Int32) : zev r i_X0_neighbourBits 0 [some (.ref x), some (.int (nI m)), some (.int w)] [] (F B) = some (some (.int (sBe C B.1 m w)), F B) := by
  obtain ⟨v, o, g0, g1, g2, -, -, r1, -⟩ := id (b B)
  have h6 : m < 6 := by have := k.2.1; omega
  simp only [E_X0_neighbourBits_0, o, if_true, b_hangs b h6, zcI_some]
  by_cases e : B.1 m = -9
  · simp only [e, if_true]
    have : sBe C B.1 m w = 0 := by
      refine zfd_zero (op := fun a b => a ||| b) (fun a => by simp) fun k _ _ => ?_
      unfold sBes
      rw [if_pos e, if_pos rfl]
    rw [this]
  · simp only [e, if_false, i01, o, if_true, g1, r1 m h6, Option.bind_some, b_bit b k, zcI_some, sBe_at g k hm w e]
theorem sAbs : ∀ a, a < 10 → ∀ b, b < 10 → (if 0 ≤ nI a - nI b then nI a - nI b else 0 - (nI a - nI b)) = (if nI a < nI b then nI b - nI a else nI a - nI b) := by decide +kernel
theorem b_wfrom (b : zBx r x c C F) (k : zCk C) (E : zEk r) (l : zLk C B.2.2.1) {m : Nat} (hm : m < C.2.1) (y w : Int32) : zev r i_X0_wakingsFrom 0 [some (.ref x), some (.int y), some (.int (nI m)), some (.int w), none, none] [] (F B) = some (some (.int (sAt C B.1 B.2.1 y w fun k => sWk C B.2.2.1 k m)), F B) := by
  obtain ⟨v, o, g0, -, g2, g3, -, -, r2, r3, -⟩ := id (b B)
  obtain ⟨-, -, -, -, v1, -, -, -, v2, -⟩ := id v
  have k1 := k.1
  have k2 := k.2.1
  simp only [E_X0_wakingsFrom_0, g0, v.1, o, Option.bind_some, if_true, cr_hook v, zcI_some, sAt]
  rcases zhk_cases C.1 (by omega) y with e | ⟨e, j, hj, rfl⟩
  · simp only [e, if_true]
  · simp only [e, i01, if_false, g2, r2 j (by omega), Option.bind_some, nI_clamp (show j < 2 ^ 31 by omega), v.1, if_true, cr_man v, zcI_some]
    rcases zhk_cases C.2.1 (by omega) (B.2.1 j) with e2 | ⟨e2, q, hq, e3⟩
    · simp only [e2, if_true]
    · rw [e3] at e2
      simp only [e2, e3, i01, if_false, o, if_true, b_in b k hq, zcI_some, nI_clamp (show q < 2 ^ 31 by omega)]
      obtain ⟨a1, ha1, ea1⟩ := l m hm
      obtain ⟨a2, ha2, ea2⟩ := l q hq
      by_cases e4 : sIn C B.1 q w = 0
      · simp only [e4, if_true]
      · simp only [e4, if_false, v1, v2 q hq, v2 m hm, E_X0_wakingsFrom_77, g3, r3 m (by omega), r3 q (by omega), g0, v.1, if_true, cr_bulk v k E hm, cr_bulk v k E hq, zcI_some, Option.bind_some, i01, if_false, sWk, ea1, ea2, sAbs a1 ha1 a2 ha2]
        have e5 : ∀ s p q z : Int32, s + p + q + z = s + q + p + z := fun s p q z => by rw [Int32.add_assoc s p q, Int32.add_comm p q, ← Int32.add_assoc]
        by_cases c1 : C.2.2.2.1 q = 2
        · by_cases c2 : C.2.2.2.1 m = 3
          · simp only [c1, c2, if_true]; rw [e5]
          · simp only [c1, c2, if_true, if_false]; rw [e5]
        · simp only [c1, if_false]; rw [e5]
theorem b_wak (b : zBx r x c C F) (k : zCk C) (E : zEk r) (l : zLk C B.2.2.1) (g : zCG C B.1 B.2.1) {m : Nat} (hm : m < C.2.1) (w : Int32) : zev r i_X0_wakings 0 [some (.ref x), some (.int (nI m)), some (.int w), none, none] [] (F B) = some (some (.int (sWo C B.1 B.2.2.1 m w (-9))), F B) := by
  obtain ⟨v, o, g0, g1, g2, -, -, r1, -⟩ := id (b B)
  obtain ⟨-, -, -, -, v1, -, -, -, v2, -⟩ := id v
  have h6 : m < 6 := by have := k.2.1; omega
  simp only [E_X0_wakings_0, o, if_true, b_in b k hm, zcI_some, sWo]
  by_cases e : sIn C B.1 m w = 0
  · simp only [e, if_true]
  · have e2 : ¬ B.1 m = -9 := fun q => e (by unfold sIn; rw [if_pos q])
    obtain ⟨j, hj, ej, -⟩ := (g.1 m hm).resolve_left e2
    have k1 := k.1
    simp only [e, if_false, o, g0, g1, r1 m h6, Option.bind_some, v.1, if_true, sSu_at g k hm w e2, ej, cr_wakes v k E hj, b_wfrom b k E l hm, zcI_some, v1, v2 m hm, nI_clamp (show j < 2 ^ 31 by omega), Int32.add_assoc]
    have e3 : ∀ z : Int32, (if 0 < z then z else 0) = (if z < 0 then 0 else z) := fun z => by
      by_cases c1 : z < 0
      · rw [if_pos c1, if_neg (Int32.lt_asymm c1)]
      · by_cases c2 : 0 < z
        · rw [if_pos c2, if_neg c1]
        · rw [if_neg c2, if_neg c1]
          exact Int32.le_antisymm (Int32.not_lt.mp c1) (Int32.not_lt.mp c2)
    simp only [e3]
    split <;> rfl
theorem b_all (b : zBx r x c C F) (k : zCk C) (E : zEk r) (l : zLk C B.2.2.1) (g : zCG C B.1 B.2.1) (w : Int32) : zev r i_X0_allWakings 0 [some (.ref x), some (.int w), none, none] [] (F B) = some (some (.int (sAll C B.1 B.2.2.1 w)), F B) := by
  obtain ⟨v, o, g0, -⟩ := id (b B)
  obtain ⟨-, -, v0, -⟩ := id v
  rw [E_X0_allWakings_0]
  refine zloop (fun j (a : Int32) => zev r i_X0_allWakings 4 [some (.ref x), some (.int w), some (.int a), some (.int (nI j))] [] (F B)) (fun a => some (some (.int a), F B)) _ C.2.1 (fun j a hj => ?_) (fun a => ?_) 0
  · refine (E_X0_allWakings_4 ..).trans ?_
    simp only [g0, v0, Option.bind_some, if_pos (nI_lt6 k hj), o, if_true, b_wak b k E l g hj, zcI_some, nI_1]
  · refine (E_X0_allWakings_4 ..).trans ?_
    simp only [g0, v0, Option.bind_some, if_neg (nI_nlt6 k)]
theorem b_most (b : zBx r x c C F) (k : zCk C) (E : zEk r) (l : zLk C B.2.2.1) (g : zCG C B.1 B.2.1) (w : Int32) : zev r i_X0_mostWakings 0 [some (.ref x), some (.int w), none, none] [] (F B) = some (some (.int (sMost C B.1 B.2.2.1 w)), F B) := by
  obtain ⟨v, o, g0, -⟩ := id (b B)
  obtain ⟨-, -, v0, -⟩ := id v
  rw [E_X0_mostWakings_0]
  refine zloop (fun j (a : Int32) => zev r i_X0_mostWakings 4 [some (.ref x), some (.int w), some (.int a), some (.int (nI j))] [] (F B)) (fun a => some (some (.int a), F B)) _ C.2.1 (fun j a hj => ?_) (fun a => ?_) 0
  · refine (E_X0_mostWakings_4 ..).trans ?_
    simp only [g0, v0, Option.bind_some, if_pos (nI_lt6 k hj), o, if_true, b_wak b k E l g hj, zcI_some, nI_1]
  · refine (E_X0_mostWakings_4 ..).trans ?_
    simp only [g0, v0, Option.bind_some, if_neg (nI_nlt6 k)]
theorem b_many (b : zBx r x c C F) (k : zCk C) (w : Int32) : zev r i_X0_howManyIn 0 [some (.ref x), some (.int w), none, none] [] (F B) = some (some (.int (sMany C B.1 w)), F B) := by
  obtain ⟨v, o, g0, -⟩ := id (b B)
  obtain ⟨-, -, v0, -⟩ := id v
  rw [E_X0_howManyIn_0]
  refine zloop (fun j (a : Int32) => zev r i_X0_howManyIn 4 [some (.ref x), some (.int w), some (.int a), some (.int (nI j))] [] (F B)) (fun a => some (some (.int a), F B)) _ C.2.1 (fun j a hj => ?_) (fun a => ?_) 0
  · refine (E_X0_howManyIn_4 ..).trans ?_
    simp only [g0, v0, Option.bind_some, if_pos (nI_lt6 k hj), o, if_true, b_in b k hj, zcI_some, nI_1]
    split <;> rfl
  · refine (E_X0_howManyIn_4 ..).trans ?_
    simp only [g0, v0, Option.bind_some, if_neg (nI_nlt6 k)]
def sTired (C : zCs) (T : zA) : Int32 := zfd (fun a m => a + T m) 0 C.2.1 0
theorem b_tired (b : zBx r x c C F) (k : zCk C) : zev r i_X0_tiredTogether 0 [some (.ref x), none, none] [] (F B) = some (some (.int (sTired C B.2.2.2)), F B) := by
  obtain ⟨v, o, g0, -, -, -, g4, -, -, -, r4, -⟩ := id (b B)
  obtain ⟨-, -, v0, -⟩ := id v
  have k2 := k.2.1
  rw [E_X0_tiredTogether_0]
  refine zloop (fun j (a : Int32) => zev r i_X0_tiredTogether 4 [some (.ref x), some (.int a), some (.int (nI j))] [] (F B)) (fun a => some (some (.int a), F B)) _ C.2.1 (fun j a hj => ?_) (fun a => ?_) 0
  · refine (E_X0_tiredTogether_4 ..).trans ?_
    simp only [g0, v0, Option.bind_some, if_pos (nI_lt6 k hj), g4, r4 j (by omega), nI_1]
  · refine (E_X0_tiredTogether_4 ..).trans ?_
    simp only [g0, v0, Option.bind_some, if_neg (nI_nlt6 k)]
def sMan (C : zCs) (H L T : zA) (m : Nat) (i : Int32) : Int32 := if i = 0 then C.2.2.2.1 m else if i = 1 then L m else if i = 2 then C.2.2.2.2.1 m else if i = 3 then C.2.2.2.2.2 m else if i = 4 then H m else T m
theorem b_man (b : zBx r x c C F) (k : zCk C) {m : Nat} (hm : m < C.2.1) (i : Int32) : zev r i_X0_manDetail 0 [some (.ref x), some (.int (nI m)), some (.int i)] [] (F B) = some (some (.int (sMan C B.1 B.2.2.1 B.2.2.2 m i)), F B) := by
  obtain ⟨v, o, g0, g1, -, g3, g4, r1, -, r3, r4, -⟩ := id (b B)
  obtain ⟨-, -, -, -, v1, v2, v3, -, v4, v5, v6⟩ := id v
  have h6 : m < 6 := by have := k.2.1; omega
  simp only [E_X0_manDetail_0, g0, g1, g3, g4, r1 m h6, r3 m h6, r4 m h6, v1, v2, v3, v4 m hm, v5 m hm, v6 m hm, Option.bind_some, sMan]
  repeat' split
  all_goals rfl
theorem b_hook (b : zBx r x c C F) (k : zCk C) {j : Nat} (hj : j < C.1) (i : Int32) : zev r i_X0_hookDetail 0 [some (.ref x), some (.int (nI j)), some (.int i)] [] (F B) = some (some (.int (if i = 0 then C.2.2.1 j else B.2.1 j)), F B) := by
  obtain ⟨v, o, g0, g1, g2, g3, g4, r1, r2, r3, r4, -⟩ := id (b B)
  obtain ⟨-, -, -, v1, -, -, -, v4, -⟩ := id v
  have h6 : j < 7 := by have := k.1; omega
  simp only [E_X0_hookDetail_0, g0, g2, r2 j h6, v1, v4 j hj, Option.bind_some]
  repeat' split
  all_goals rfl
end TELL
end
section
/-! THE STATE BETWEEN TWO CALLS; what agrees tells the same -/
def zbw (lo hi i : Int32) : Int32 := if i < lo then 0 else if hi < i then 0 else 1
theorem zbw_hk {n : Nat} (hn : n < 2 ^ 31) (i : Int32) : zbw 0 (nI n - 1) i = zhk n i := by
  unfold zbw zhk
  by_cases c : i < 0
  · rw [if_pos c, if_pos c]
  · rw [if_neg c, if_neg c]
    obtain ⟨j, hj, rfl⟩ := nI_of c
    cases n with
    | zero => rw [if_pos (show nI 0 - 1 < nI j from Int32.lt_of_lt_of_le (by decide) (nI_pos' hj)), if_neg (nI_nlt (Nat.zero_le _) hj)]
    | succ n =>
      rw [nI_pred]
      by_cases c2 : n < j
      · rw [if_pos (nI_lt c2 hj), if_neg (nI_nlt (by omega) hj)]
      · rw [if_neg (nI_nlt (by omega) (by omega)), if_pos (nI_lt (by omega) hn)]
theorem zhk_01 (n : Nat) (i : Int32) : zhk n i = 0 ∨ zhk n i = 1 := by
  unfold zhk
  repeat' split
  all_goals first | exact .inl rfl | exact .inr rfl
def zVd (C : zCs) (H : zA) : Prop := ∀ m, m < C.2.1 → H m = -9 ∨ ∃ j, j < C.1 ∧ H m = nI j
def sMates (C : zCs) (H : zA) : Int32 := zfd (fun a m => zfd (fun a q => a + (if C.2.2.2.2.2 m = C.2.2.2.2.2 q then if sBes C H q m 0 = 0 then 0 else 1 else 0)) 0 m a) 0 C.2.1 0
theorem nI_of0 (n : Nat) : Int32.ofNat n = nI n := id rfl
theorem va_same {α : Type} {f : Nat → α} {k : Nat} {v : α} : va_up f k v k = v := by simp [va_up]
theorem va_ne {α : Type} {f : Nat → α} {k j : Nat} {v : α} (h : j ≠ k) : va_up f k v j = f j := by simp [va_up, h]
theorem va_self {α : Type} (f : Nat → α) (k : Nat) : va_up f k (f k) = f := by
  funext j
  by_cases h : j = k
  · subst h; exact va_same
  · exact va_ne h
theorem nI_m1 {m : Nat} (h : m < 2 ^ 31) : ¬ nI m = -1 := fun e => nI_pos h (by rw [e]; decide)
section SAME
variable {C : zCs} {H H' L L' : zA}
theorem sIn_c {m : Nat} (e : H' m = H m) (w : Int32) : sIn C H' m w = sIn C H m w := by unfold sIn; rw [e]
theorem sBes_c {k m : Nat} (e1 : H' k = H k) (e : H' m = H m) (w : Int32) : sBes C H' k m w = sBes C H k m w := by unfold sBes; rw [sIn_c e1, e1, e]
theorem sWk_c {k m : Nat} (e1 : L' k = L k) (e : L' m = L m) : sWk C L' k m = sWk C L k m := by unfold sWk; rw [e1, e]
theorem sSu_c {m : Nat} (hm : m < C.2.1) (e : ∀ k, k < C.2.1 → H' k = H k) (el : ∀ k, k < C.2.1 → L' k = L k) (w b : Int32) : sSu C H' L' m w b = sSu C H L m w b := by
  unfold sSu
  rw [e m hm]
  exact zfd_congr fun s k _ hk => by rw [sBes_c (e k (by omega)) (e m hm), sWk_c (el k (by omega)) (el m hm)]
theorem sWo_c {m : Nat} (hm : m < C.2.1) (e : ∀ k, k < C.2.1 → H' k = H k) (el : ∀ k, k < C.2.1 → L' k = L k) (w b : Int32) : sWo C H' L' m w b = sWo C H L m w b := by
  unfold sWo
  rw [sIn_c (e m hm), sSu_c hm e el]
theorem sAll_c (e : ∀ k, k < C.2.1 → H' k = H k) (el : ∀ k, k < C.2.1 → L' k = L k) (w : Int32) : sAll C H' L' w = sAll C H L w := zfd_congr fun s k _ hk => by rw [sWo_c (by omega) e el]
theorem sMost_c (e : ∀ k, k < C.2.1 → H' k = H k) (el : ∀ k, k < C.2.1 → L' k = L k) (w : Int32) : sMost C H' L' w = sMost C H L w := zfd_congr fun s k _ hk => by rw [sWo_c (by omega) e el]
theorem sMany_c (e : ∀ k, k < C.2.1 → H' k = H k) (w : Int32) : sMany C H' w = sMany C H w := zfd_congr fun s k _ hk => by rw [sIn_c (e k (by omega))]
theorem sBe_c {m : Nat} (hm : m < C.2.1) (e : ∀ k, k < C.2.1 → H' k = H k) (w : Int32) : sBe C H' m w = sBe C H m w := zfd_congr fun s k _ hk => by rw [sBes_c (e k (by omega)) (e m hm)]
theorem sMates_c (e : ∀ k, k < C.2.1 → H' k = H k) : sMates C H' = sMates C H := zfd_congr fun s m _ hm => zfd_congr fun s k _ hk => by rw [sBes_c (e k (by omega)) (e m (by omega))]
theorem sTired_c {T T' : zA} (e : ∀ k, k < C.2.1 → T' k = T k) : sTired C T' = sTired C T := zfd_congr fun s k _ hk => by rw [e k (by omega)]
end SAME
section VALID
variable {C : zCs}
theorem cg_vd {H G : zA} (g : zCG C H G) : zVd C H := fun m hm => (g.1 m hm).imp id fun ⟨j, a, b, _⟩ => ⟨j, a, b⟩
theorem vd_c {H H' : zA} (e : ∀ m, m < C.2.1 → H' m = H m) (v : zVd C H) : zVd C H' := fun m hm => by rw [e m hm]; exact v m hm
/-- hooks that are hooks, no two alike -/
def zVI (C : zCs) (H : zA) : Prop := zVd C H ∧ ∀ m k, m < C.2.1 → k < C.2.1 → H m = H k → ¬ H m = -9 → m = k
theorem cg_vi {H G : zA} (k : zCk C) (g : zCG C H G) : zVI C H := ⟨cg_vd g, fun m q hm hq e hn => by
  rcases g.1 m hm with z | ⟨j, a1, a2, a3⟩
  · exact absurd z hn
  · exact zCG_inj g k hm hq a1 a2 (e.symm.trans a2)⟩
theorem vi_c {H H' : zA} (e : ∀ m, m < C.2.1 → H' m = H m) (v : zVI C H) : zVI C H' := ⟨vd_c e v.1, fun m q hm hq => by rw [e m hm, e q hq]; exact v.2 m q hm hq⟩
theorem lk_c {L L' : zA} (e : ∀ m, m < C.2.1 → L' m = L m) (v : zLk C L) : zLk C L' := fun m hm => by rw [e m hm]; exact v m hm
end VALID
/-- lines 1 to 9; tired 0 to 99 -/
def zL1 (C : zCs) (L : zA) : Prop := ∀ m, m < C.2.1 → ∃ a, 1 ≤ a ∧ a < 10 ∧ L m = nI a
def zT9 (C : zCs) (T : zA) : Prop := ∀ m, m < C.2.1 → ∃ a, a < 100 ∧ T m = nI a
theorem l1_lk {C : zCs} {L : zA} (h : zL1 C L) : zLk C L := fun m hm => by
  obtain ⟨a, _, h2, h3⟩ := h m hm
  exact ⟨a, h2, h3⟩
theorem l1_c {C : zCs} {L L' : zA} (e : ∀ m, m < C.2.1 → L' m = L m) (v : zL1 C L) : zL1 C L' := fun m hm => by rw [e m hm]; exact v m hm
theorem t9_c {C : zCs} {L L' : zA} (e : ∀ m, m < C.2.1 → L' m = L m) (v : zT9 C L) : zT9 C L' := fun m hm => by rw [e m hm]; exact v m hm
/-- hooks, lines, tired -/
abbrev zDk : Type := zA × zA × zA
/-- a crew in the rest of the heap (or the first one) -/
def zCt (r : zE) (t : zH) (c : Nat) (C : zCs) : Prop := ∀ c0 c1 c2 I J Q N A Ga Va, zCv r (r.1 + c) C (zmk r c0 c1 c2 I J Q N A Ga Va t)
def zNo (C : zCs) (N : zBr) : Prop := zCG C N.1 N.2.1 ∧ zLk C N.2.2.1 ∧ True
def zDe (C : zCs) (N : zBr) (D : zDk) : Prop := ∀ m, m < C.2.1 → N.1 m = D.1 m ∧ N.2.2.1 m = D.2.1 m ∧ N.2.2.2 m = D.2.2 m
def zOk (C : zCs) (D : zDk) : Prop := zVI C D.1 ∧ zL1 C D.2.1 ∧ zT9 C D.2.2
/-- a log: moments 0 to d -/
def zPa (C : zCs) (d : Nat) (P : zA) (M : Nat → zDk) : Prop := d ≤ 60 ∧ ∀ j, j ≤ d → zOk C (M j) ∧ ∀ m, m < C.2.1 → P (18 * j + m) = (M j).1 m ∧ P (18 * j + (6 + m)) = (M j).2.1 m ∧ P (18 * j + (12 + m)) = (M j).2.2 m
def zKe (C : zCs) (s : Int32) (P : zA) (o : Option (Nat × (Nat → zDk))) : Prop := match o with
  | none => s = -1
  | some q => s = nI q.1 ∧ zPa C q.1 P q.2
/-- a row or a text -/
def zRw (s : Int32) (f : zA) (o : Option (List Int32)) (mx : Nat) : Prop := match o with
  | none => s = -1
  | some l => l.length ≤ mx ∧ s = nI l.length ∧ ∀ i, i < l.length → f i = l.getD i 0
def zI (r : zE) (C : zCs) (d : Nat) (M : Nat → zDk) (K : Nat → Option (Nat × (Nat → zDk))) (W Tx : Nat → Option (List Int32)) (ta : Int32) (tu tl : Int64) (c : Nat) (I : zA) (J : Nat → Int64) (Q : Nat → zA) (N : zBr) (t : zH) : Prop :=
  zCk C ∧ zCt r t c C ∧ zNo C N ∧ zDe C N (M d) ∧ I 2 = nI d ∧ zPa C d (Q 9) M ∧ (∀ k, k < 3 → zKe C (I (3 + k)) (Q (10 + k)) (K k)) ∧ (∀ j, j < 6 → zRw (I (6 + j)) (Q (13 + j)) (W j) 40) ∧ (∀ j, j < 4 → zRw (I (12 + j)) (Q (19 + j)) (Tx j) 60) ∧ I 0 = ta ∧ J 0 = tu ∧ J 1 = tl
/-- the state between two calls: n decks have been laid -/
def zSt (r : zE) (C : zCs) (d : Nat) (M : Nat → zDk) (K : Nat → Option (Nat × (Nat → zDk))) (W Tx : Nat → Option (List Int32)) (ta : Int32) (tu tl : Int64) (Ga Va : zA) (n : Nat) (h : zH) : Prop := ∃ c c2 I J Q N A t, h = zmk r c c c2 I J Q N A Ga Va t ∧ zI r C d M K W Tx ta tu tl c I J Q N t ∧ t.length ≤ 7 * n ∧ zhs t ≤ 60 * n
section FRAME
variable {r : zE} {C : zCs} {d : Nat} {M : Nat → zDk} {K : Nat → Option (Nat × (Nat → zDk))} {W Tx : Nat → Option (List Int32)} {ta : Int32} {tu tl : Int64} {Ga Va : zA} {n : Nat} {c c2 : Nat} {I : zA} {J : Nat → Int64} {Q : Nat → zA} {N A : zBr} {t : zH}
theorem st_mk (iv : zI r C d M K W Tx ta tu tl c I J Q N t) (t1 : t.length ≤ 7 * n) (t2 : zhs t ≤ 60 * n) : zSt r C d M K W Tx ta tu tl Ga Va n (zmk r c c c2 I J Q N A Ga Va t) := ⟨c, c2, I, J, Q, N, A, t, rfl, iv, t1, t2⟩
theorem iv_told (v : Int32) (i : zI r C d M K W Tx ta tu tl c I J Q N t) : zI r C d M K W Tx (v) tu tl c (va_up I 0 v) J Q N t := by
  obtain ⟨h1, h2, h3, h4, h5, h6, h7, h8, h9, h10, h11, h12⟩ := i
  refine ⟨h1, h2, h3, h4, ?_, h6, fun k hk => ?_, fun j hj => ?_, fun j hj => ?_, va_same, h11, h12⟩
  · rw [va_ne (by decide)]; exact h5
  · rw [va_ne (by omega)]; exact h7 k hk
  · rw [va_ne (by omega)]; exact h8 j hj
  · rw [va_ne (by omega)]; exact h9 j hj
theorem iv_ratio (x y : Int64) (i : zI r C d M K W Tx ta tu tl c I J Q N t) : zI r C d M K W Tx ta (x) (y) c I (va_up (va_up J 0 x) 1 y) Q N t := by
  obtain ⟨h1, h2, h3, h4, h5, h6, h7, h8, h9, h10, h11, h12⟩ := i
  exact ⟨h1, h2, h3, h4, h5, h6, h7, h8, h9, h10, by rw [va_ne (by decide), va_same], va_same⟩
theorem iv_found (v : Int32) (f : zA) (i : zI r C d M K W Tx ta tu tl c I J Q N t) : zI r C d M K W Tx ta tu tl c (va_up I 1 v) J (va_up Q 0 f) N t := by
  obtain ⟨h1, h2, h3, h4, h5, h6, h7, h8, h9, h10, h11, h12⟩ := i
  refine ⟨h1, h2, h3, h4, ?_, ?_, fun k hk => ?_, fun j hj => ?_, fun j hj => ?_, ?_, h11, h12⟩
  · rw [va_ne (by decide)]; exact h5
  · rw [va_ne (by decide)]; exact h6
  · rw [va_ne (by omega), va_ne (by omega)]; exact h7 k hk
  · rw [va_ne (by omega), va_ne (by omega)]; exact h8 j hj
  · rw [va_ne (by omega), va_ne (by omega)]; exact h9 j hj
  · rw [va_ne (by decide)]; exact h10
theorem iv_row {j : Nat} {s : Int32} {f : zA} {o : Option (List Int32)} (i : zI r C d M K W Tx ta tu tl c I J Q N t) (hj : j < 6) (e : zRw s f o 40) : zI r C d M K (va_up W j o) Tx ta tu tl c (va_up I (6 + j) s) J (va_up Q (13 + j) f) N t := by
  obtain ⟨h1, h2, h3, h4, h5, h6, h7, h8, h9, h10, h11, h12⟩ := i
  refine ⟨h1, h2, h3, h4, ?_, ?_, fun k hk => ?_, fun q hq => ?_, fun q hq => ?_, ?_, h11, h12⟩
  · rw [va_ne (by omega)]; exact h5
  · rw [va_ne (by omega)]; exact h6
  · rw [va_ne (by omega), va_ne (by omega)]; exact h7 k hk
  · by_cases z : q = j
    · subst z; rw [va_same, va_same, va_same]; exact e
    · rw [va_ne (by omega), va_ne (by omega), va_ne z]; exact h8 q hq
  · rw [va_ne (by omega), va_ne (by omega)]; exact h9 q hq
  · rw [va_ne (by omega)]; exact h10
theorem iv_text {j : Nat} {s : Int32} {f : zA} {o : Option (List Int32)} (i : zI r C d M K W Tx ta tu tl c I J Q N t) (hj : j < 4) (e : zRw s f o 60) : zI r C d M K W (va_up Tx j o) ta tu tl c (va_up I (12 + j) s) J (va_up Q (19 + j) f) N t := by
  obtain ⟨h1, h2, h3, h4, h5, h6, h7, h8, h9, h10, h11, h12⟩ := i
  refine ⟨h1, h2, h3, h4, ?_, ?_, fun k hk => ?_, fun q hq => ?_, fun q hq => ?_, ?_, h11, h12⟩
  · rw [va_ne (by omega)]; exact h5
  · rw [va_ne (by omega)]; exact h6
  · rw [va_ne (by omega), va_ne (by omega)]; exact h7 k hk
  · rw [va_ne (by omega), va_ne (by omega)]; exact h8 q hq
  · by_cases z : q = j
    · subst z; rw [va_same, va_same, va_same]; exact e
    · rw [va_ne (by omega), va_ne (by omega), va_ne z]; exact h9 q hq
  · rw [va_ne (by omega)]; exact h10
/-- another log, another now -/
theorem iv_log (i : zI r C d M K W Tx ta tu tl c I J Q N t) (d' : Nat) (M' : Nat → zDk) (P : zA) (N' : zBr) (hp : zPa C d' P M') (g : zCG C N'.1 N'.2.1) (e : zDe C N' (M' d')) : zI r C (d') (M') K W Tx ta tu tl c (va_up I 2 (nI d')) J (va_up Q 9 P) (N') t := by
  obtain ⟨h1, h2, h3, h4, h5, h6, h7, h8, h9, h10, h11, h12⟩ := i
  refine ⟨h1, h2, ⟨g, l1_lk (l1_c (fun m hm => (e m hm).2.1) (hp.2 d' (Nat.le_refl _)).1.2.1), trivial⟩, e, va_same, ?_, fun k hk => ?_, fun q hq => ?_, fun q hq => ?_, ?_, h11, h12⟩
  · rw [va_same]; exact hp
  · rw [va_ne (by omega), va_ne (by omega)]; exact h7 k hk
  · rw [va_ne (by omega), va_ne (by omega)]; exact h8 q hq
  · rw [va_ne (by omega), va_ne (by omega)]; exact h9 q hq
  · rw [va_ne (by omega)]; exact h10
theorem iv_kept {j : Nat} {s : Int32} {f : zA} {o : Option (Nat × (Nat → zDk))} (i : zI r C d M K W Tx ta tu tl c I J Q N t) (hj : j < 3) (e : zKe C s f o) : zI r C d M (va_up K j o) W Tx ta tu tl c (va_up I (3 + j) s) J (va_up Q (10 + j) f) N t := by
  obtain ⟨h1, h2, h3, h4, h5, h6, h7, h8, h9, h10, h11, h12⟩ := i
  refine ⟨h1, h2, h3, h4, ?_, ?_, fun q hq => ?_, fun q hq => ?_, fun q hq => ?_, ?_, h11, h12⟩
  · rw [va_ne (by omega)]; exact h5
  · rw [va_ne (by omega)]; exact h6
  · by_cases z : q = j
    · subst z; rw [va_same, va_same, va_same]; exact e
    · rw [va_ne (by omega), va_ne (by omega), va_ne z]; exact h7 q hq
  · rw [va_ne (by omega), va_ne (by omega)]; exact h8 q hq
  · rw [va_ne (by omega), va_ne (by omega)]; exact h9 q hq
  · rw [va_ne (by omega)]; exact h10
/-- what is read of the state: only moments 0 to d count -/
theorem pa_c {d' : Nat} {P : zA} {M' : Nat → zDk} (h : zPa C d P M) (hd : d' ≤ d) (e : ∀ j, j ≤ d' → M' j = M j) : zPa C d' P M' := ⟨by have := h.1; omega, fun j hj => by rw [e j hj]; exact h.2 j (by omega)⟩
end FRAME
section CONST
variable {r : zE} {c0 c1 c2 : Nat} {I : Nat → Int32} {J : Nat → Int64} {Q : Nat → Nat → Int32} {N A : zBr} {Ga Va : Nat → Int32} {t : zH} {C : zCs} {c : Nat}
theorem k_when (r : zE) (h : zH) (i : Int32) : zev r i_X5_isWhen 0 [some (.int i)] [] h = some (some (.int (zhk 3 i)), h) := by
  rw [E_X5_isWhen_0]
  rw [← zbw_hk (by decide) i]
  unfold zbw
  rw [show nI 3 - 1 = (2 : Int32) by decide]
  repeat' split
  all_goals rfl
theorem k_kept (i : Int32) : zev r i_X5_isKeptPlace 0 [some (.ref (r.1 + 0)), some (.int i)] [] (zmk r c0 c1 c2 I J Q N A Ga Va t) = some (some (.int (zhk 3 i)), zmk r c0 c1 c2 I J Q N A Ga Va t) := by
  simp only [E_X5_isKeptPlace_0, mo_0, mg_0_0, mg_0_1, mg_0_2, mg_0_3, mg_0_4, mg_0_5, mg_0_6, mg_0_7, mg_0_8, mg_0_9, mg_0_10, mg_0_11, Option.bind_some, mn_21, nI_of0, zhk]
  by_cases h : i < 0
  · rw [if_pos h, if_pos h]
  · rw [if_neg h, if_neg h]
    by_cases h : i < nI 3
    · rw [if_pos h, if_pos h]
    · rw [if_neg h, if_neg h]
theorem k_tell (i : Int32) : zev r i_X5_tell 0 [some (.ref (r.1 + 0)), some (.int i)] [] (zmk r c0 c1 c2 I J Q N A Ga Va t) = some (none, zmk r c0 c1 c2 (va_up I 0 i) J Q N A Ga Va t) := by
  simp only [E_X5_tell_0, mp_0_7, Option.bind_some]
theorem k_found {f : Nat} (h1 : 1 ≤ f) (h6 : f < 6) : zev r i_X5_found 0 [some (.ref (r.1 + 0)), some (.int (nI f))] [] (zmk r c0 c1 c2 I J Q N A Ga Va t) = some (some (.int (-3)), zmk r c0 c1 c2 (va_up I 1 (nI f)) J (va_up Q 0 (upd (Q 0) f (Q 0 f + 1))) N A Ga Va t) := by
  have e1 : ¬ nI f < 1 := nI_nlt (b := 1) h1 (by omega)
  have e2 : ¬ (5 : Int32) < nI f := nI_nlt (a := 5) (by omega) (by decide)
  simp only [E_X5_found_0, if_neg e1, if_neg e2, mo_0, mg_0_0, mg_0_1, mg_0_2, mg_0_3, mg_0_4, mg_0_5, mg_0_6, mg_0_7, mg_0_8, mg_0_9, mg_0_10, mg_0_11, Option.bind_some, ma_22 h6, mw_22 h6, mp_0_10]
theorem k_rowAt (i : Int32) : zev r i_X5_rowAt 0 [some (.ref (r.1 + 0)), some (.int i)] [] (zmk r c0 c1 c2 I J Q N A Ga Va t) = some (some (if zhk 6 i = 0 then .null else .ref (r.1 + 23 + 2 * i.toNatClampNeg)), zmk r c0 c1 c2 I J Q N A Ga Va t) := by
  simp only [E_X5_rowAt_0, mo_0, mg_0_0, mg_0_1, mg_0_2, mg_0_3, mg_0_4, mg_0_5, mg_0_6, mg_0_7, mg_0_8, mg_0_9, mg_0_10, mg_0_11, Option.bind_some, mn_1, nI_of0]
  rcases pk_ix i (n := 6) (by decide) with h | h | ⟨j, hj, rfl⟩
  · rw [if_pos h, if_pos (show zhk 6 i = 0 by unfold zhk; rw [if_pos h])]
  · have h2 : ¬ i < nI 6 := Int32.not_lt.mpr h
    rw [if_neg h2, if_pos (show zhk 6 i = 0 by unfold zhk; rw [if_neg h2, ite_self])]
    rw [ite_self]
  · rw [if_neg (nI_pos (by omega)), if_pos (nI_lt hj (by decide)), zhk_in hj (by decide), if_neg i01, mq_1 hj, nI_clamp (by omega)]
    rfl
theorem k_textAt (i : Int32) : zev r i_X5_textAt 0 [some (.ref (r.1 + 0)), some (.int i)] [] (zmk r c0 c1 c2 I J Q N A Ga Va t) = some (some (if zhk 4 i = 0 then .null else .ref (r.1 + 35 + 2 * i.toNatClampNeg)), zmk r c0 c1 c2 I J Q N A Ga Va t) := by
  simp only [E_X5_textAt_0, mo_0, mg_0_0, mg_0_1, mg_0_2, mg_0_3, mg_0_4, mg_0_5, mg_0_6, mg_0_7, mg_0_8, mg_0_9, mg_0_10, mg_0_11, Option.bind_some, mn_2, nI_of0]
  rcases pk_ix i (n := 4) (by decide) with h | h | ⟨j, hj, rfl⟩
  · rw [if_pos h, if_pos (show zhk 4 i = 0 by unfold zhk; rw [if_pos h])]
  · have h2 : ¬ i < nI 4 := Int32.not_lt.mpr h
    rw [if_neg h2, if_pos (show zhk 4 i = 0 by unfold zhk; rw [if_neg h2, ite_self])]
    rw [ite_self]
  · rw [if_neg (nI_pos (by omega)), if_pos (nI_lt hj (by decide)), zhk_in hj (by decide), if_neg i01, mq_2 hj, nI_clamp (by omega)]
    rfl
theorem z_fill (r : zE) {n : Nat} (G : zA → zH) {a : Nat} (hn : n < 2 ^ 31) (hN : ∀ f, zaN r (G f) a = some n) (hS : ∀ f j y, j < n → zsI r (G f) a (nI j) y = some (G (upd f j y))) (f : zA) (v : Int32) : zev r i_J7_fill_53178 0 [some (.ref a), some (.int v), none, none] [] (G f) = some (none, G (fun i => if i < n then v else f i)) := by
  rw [E_J7_fill_53178_0, hN]
  refine (zloop (fun j (g : zA) => zev r i_J7_fill_53178 5 [some (.ref a), some (.int v), some (.int (nI j)), some (.int (nI n))] [] (G g)) (fun g => some (none, G g)) (fun g j => upd g j v) n (fun j g hj => ?_) (fun g => ?_) f).trans ?_
  · refine (E_J7_fill_53178_5 ..).trans ?_
    simp only [if_pos (nI_lt hj hn), hS g j v hj, Option.bind_some, nI_1]
  · refine (E_J7_fill_53178_5 ..).trans ?_
    simp only [if_neg (nI_nlt (Nat.le_refl n) hn)]
  · congr 3
    funext i
    have := zfd_inv (f := fun (g : zA) j => upd g j v) (fun j g => g i = if i < j then v else f i) (j := 0) (n := n) (s := f) (by simp) (fun s k _ _ h => by
      show upd s k v i = _
      unfold upd
      by_cases e : i = k
      · rw [if_pos e, if_pos (by omega)]
      · rw [if_neg e, h]
        by_cases e2 : i < k
        · rw [if_pos e2, if_pos (by omega)]
        · rw [if_neg e2, if_neg (by omega)])
    rw [this, Nat.zero_add]
end CONST
end
section
/-! ROWS AND TEXTS OF THE CLASS; the calls on them -/
section ROWS
variable {r : zE} {c0 c1 c2 : Nat} {I : Nat → Int32} {J : Nat → Int64} {Q : Nat → Nat → Int32} {N A : zBr} {Ga Va : Nat → Int32} {t : zH} {C : zCs} {c j : Nat}
theorem wr_miss (hj : j < 6) : zev r i_X4_isMissing 0 [some (.ref (r.1 + 23 + 2 * j))] [] (zmk r c0 c1 c2 I J Q N A Ga Va t) = some (some (.int (if I (6 + j) = -1 then 1 else 0)), zmk r c0 c1 c2 I J Q N A Ga Va t) := by
  simp only [E_X4_isMissing_0, mgs_r hj, Option.bind_some]
  split <;> rfl
theorem wr_has (hj : j < 6) {n : Nat} (hn : I (6 + j) = nI n) (i : Int32) : zev r i_X4_has 0 [some (.ref (r.1 + 23 + 2 * j)), some (.int i)] [] (zmk r c0 c1 c2 I J Q N A Ga Va t) = some (some (.int (zhk n i)), zmk r c0 c1 c2 I J Q N A Ga Va t) := by
  simp only [E_X4_has_0, mgs_r hj, Option.bind_some, hn, zhk]
  repeat' split
  all_goals rfl
theorem wr_get (hj : j < 6) {n : Nat} (hn : I (6 + j) = nI n) (h6 : n ≤ 60) (i : Int32) : zev r i_X4_get 0 [some (.ref (r.1 + 23 + 2 * j)), some (.int i)] [] (zmk r c0 c1 c2 I J Q N A Ga Va t) = some (some (.int (if zhk n i = 0 then 0 else Q (13 + j) i.toNatClampNeg)), zmk r c0 c1 c2 I J Q N A Ga Va t) := by
  simp only [E_X4_get_0, mo_r hj, if_true, wr_has hj hn, zcI_some]
  rcases zhk_cases n (by omega) i with e | ⟨e, k, hk, rfl⟩
  · simp only [e, if_true]
  · simp only [e, i01, if_false, mgv_r hj, Option.bind_some, mav_r hj (show k < 60 by omega), nI_clamp (show k < 2 ^ 31 by omega)]
theorem wr_set (hj : j < 6) {n k : Nat} (hn : I (6 + j) = nI n) (h6 : n ≤ 60) (hk : k < n) (v : Int32) : zev r i_X4_set 0 [some (.ref (r.1 + 23 + 2 * j)), some (.int (nI k)), some (.int v)] [] (zmk r c0 c1 c2 I J Q N A Ga Va t) = some (none, zmk r c0 c1 c2 I J (va_up Q (13 + j) (upd (Q (13 + j)) k v)) N A Ga Va t) := by
  simp only [E_X4_set_0, mo_r hj, if_true, wr_has hj hn, zcI_some, zhk_in hk (show n < 2 ^ 31 by omega), i01, if_false, mgv_r hj, Option.bind_some, mwv_r hj (show k < 60 by omega)]
theorem wr_fill (hj : j < 6) (v : Int32) : zev r i_J7_fill_53178 0 [some (.ref (r.1 + (24 + 2 * j))), some (.int v), none, none] [] (zmk r c0 c1 c2 I J Q N A Ga Va t) = some (none, zmk r c0 c1 c2 I J (va_up Q (13 + j) (fun i => if i < 60 then v else Q (13 + j) i)) N A Ga Va t) := by
  have := z_fill r (n := 60) (a := r.1 + (24 + 2 * j)) (fun f => zmk r c0 c1 c2 I J (va_up Q (13 + j) f) N A Ga Va t) (by decide) (fun f => mnv_r hj) (fun f k y hk => by rw [mwv_r hj hk, va_same, bx_uu]) (Q (13 + j)) v
  rwa [va_self] at this
theorem wr_renew (hj : j < 6) {n : Nat} (h6 : n ≤ 60) (v : Int32) : zev r i_X4_renew 0 [some (.ref (r.1 + 23 + 2 * j)), some (.int (nI n)), some (.int v)] [] (zmk r c0 c1 c2 I J Q N A Ga Va t) = some (none, zmk r c0 c1 c2 (va_up I (6 + j) (nI n)) J (va_up Q (13 + j) (fun i => if i < 60 then v else Q (13 + j) i)) N A Ga Va t) := by
  have e : (if (0 : Int32) < (if nI 60 < nI n then nI 60 else nI n) then (if nI 60 < nI n then nI 60 else nI n) else (0 : Int32)) = nI n := by
    rw [if_neg (nI_nlt h6 (show 60 < 2 ^ 31 by decide))]
    cases n with
    | zero => rfl
    | succ n => rw [if_pos (show (0 : Int32) < nI (n + 1) from nI_lt (a := 0) (Nat.succ_pos n) (by omega))]
  simp only [E_X4_renew_0, mgv_r hj, mnv_r hj, Option.bind_some, nI_of0, e, mps_r hj, wr_fill hj, zcV_some]
theorem wr_disc (hj : j < 6) : zev r i_X4_discard 0 [some (.ref (r.1 + 23 + 2 * j))] [] (zmk r c0 c1 c2 I J Q N A Ga Va t) = some (none, zmk r c0 c1 c2 (va_up I (6 + j) (-1)) J Q N A Ga Va t) := by
  simp only [E_X4_discard_0, mps_r hj, Option.bind_some]
theorem wr_dig (hj : j < 6) {n : Nat} (hn : I (6 + j) = nI n) (h6 : n ≤ 60) (g : Int64) : zev r i_X4_digestedOnto 0 [some (.ref (r.1 + 23 + 2 * j)), some (.long g), none, none, none, none] [] (zmk r c0 c1 c2 I J Q N A Ga Va t) = some (some (.long (zfd (fun a i => 31 * a + (Q (13 + j) i).toInt64) 0 n (31 * g + (nI n).toInt64))), zmk r c0 c1 c2 I J Q N A Ga Va t) := by
  simp only [E_X4_digestedOnto_0, mgs_r hj, Option.bind_some, hn]
  refine zloop (fun i (a : Int64) => zev r i_X4_digestedOnto 15 [some (.ref (r.1 + 23 + 2 * j)), some (.long g), none, some (.long a), none, some (.int (nI i))] [] (zmk r c0 c1 c2 I J Q N A Ga Va t)) (fun a => some (some (.long a), zmk r c0 c1 c2 I J Q N A Ga Va t)) _ n (fun i a hi => ?_) (fun a => ?_) _
  · refine (E_X4_digestedOnto_15 ..).trans ?_
    simp only [mgs_r hj, Option.bind_some, hn, if_pos (nI_lt hi (show n < 2 ^ 31 by omega)), mo_r hj, if_true, wr_get hj hn h6, zcI_some, zhk_in hi (show n < 2 ^ 31 by omega), i01, if_false, nI_clamp (show i < 2 ^ 31 by omega), nI_1]
  · refine (E_X4_digestedOnto_15 ..).trans ?_
    simp only [mgs_r hj, Option.bind_some, hn, if_neg (nI_nlt (Nat.le_refl n) (show n < 2 ^ 31 by omega))]
theorem wr_dig1 (hj : j < 6) (hn : I (6 + j) = -1) (g : Int64) : zev r i_X4_digestedOnto 0 [some (.ref (r.1 + 23 + 2 * j)), some (.long g), none, none, none, none] [] (zmk r c0 c1 c2 I J Q N A Ga Va t) = some (some (.long (31 * g + (-1 : Int32).toInt64)), zmk r c0 c1 c2 I J Q N A Ga Va t) := by
  simp only [E_X4_digestedOnto_0, mgs_r hj, Option.bind_some, hn]
  refine (E_X4_digestedOnto_15 ..).trans ?_
  simp only [mgs_r hj, Option.bind_some, hn, if_neg (show ¬ (0 : Int32) < -1 by decide)]
theorem wt_miss (hj : j < 4) : zev r i_X4_isMissing 0 [some (.ref (r.1 + 35 + 2 * j))] [] (zmk r c0 c1 c2 I J Q N A Ga Va t) = some (some (.int (if I (12 + j) = -1 then 1 else 0)), zmk r c0 c1 c2 I J Q N A Ga Va t) := by
  simp only [E_X4_isMissing_0, mgs_t hj, Option.bind_some]
  split <;> rfl
theorem wt_has (hj : j < 4) {n : Nat} (hn : I (12 + j) = nI n) (i : Int32) : zev r i_X4_has 0 [some (.ref (r.1 + 35 + 2 * j)), some (.int i)] [] (zmk r c0 c1 c2 I J Q N A Ga Va t) = some (some (.int (zhk n i)), zmk r c0 c1 c2 I J Q N A Ga Va t) := by
  simp only [E_X4_has_0, mgs_t hj, Option.bind_some, hn, zhk]
  repeat' split
  all_goals rfl
theorem wt_get (hj : j < 4) {n : Nat} (hn : I (12 + j) = nI n) (h6 : n ≤ 60) (i : Int32) : zev r i_X4_get 0 [some (.ref (r.1 + 35 + 2 * j)), some (.int i)] [] (zmk r c0 c1 c2 I J Q N A Ga Va t) = some (some (.int (if zhk n i = 0 then 0 else Q (19 + j) i.toNatClampNeg)), zmk r c0 c1 c2 I J Q N A Ga Va t) := by
  simp only [E_X4_get_0, mo_t hj, if_true, wt_has hj hn, zcI_some]
  rcases zhk_cases n (by omega) i with e | ⟨e, k, hk, rfl⟩
  · simp only [e, if_true]
  · simp only [e, i01, if_false, mgv_t hj, Option.bind_some, mav_t hj (show k < 60 by omega), nI_clamp (show k < 2 ^ 31 by omega)]
theorem wt_set (hj : j < 4) {n k : Nat} (hn : I (12 + j) = nI n) (h6 : n ≤ 60) (hk : k < n) (v : Int32) : zev r i_X4_set 0 [some (.ref (r.1 + 35 + 2 * j)), some (.int (nI k)), some (.int v)] [] (zmk r c0 c1 c2 I J Q N A Ga Va t) = some (none, zmk r c0 c1 c2 I J (va_up Q (19 + j) (upd (Q (19 + j)) k v)) N A Ga Va t) := by
  simp only [E_X4_set_0, mo_t hj, if_true, wt_has hj hn, zcI_some, zhk_in hk (show n < 2 ^ 31 by omega), i01, if_false, mgv_t hj, Option.bind_some, mwv_t hj (show k < 60 by omega)]
theorem wt_fill (hj : j < 4) (v : Int32) : zev r i_J7_fill_53178 0 [some (.ref (r.1 + (36 + 2 * j))), some (.int v), none, none] [] (zmk r c0 c1 c2 I J Q N A Ga Va t) = some (none, zmk r c0 c1 c2 I J (va_up Q (19 + j) (fun i => if i < 60 then v else Q (19 + j) i)) N A Ga Va t) := by
  have := z_fill r (n := 60) (a := r.1 + (36 + 2 * j)) (fun f => zmk r c0 c1 c2 I J (va_up Q (19 + j) f) N A Ga Va t) (by decide) (fun f => mnv_t hj) (fun f k y hk => by rw [mwv_t hj hk, va_same, bx_uu]) (Q (19 + j)) v
  rwa [va_self] at this
theorem wt_renew (hj : j < 4) {n : Nat} (h6 : n ≤ 60) (v : Int32) : zev r i_X4_renew 0 [some (.ref (r.1 + 35 + 2 * j)), some (.int (nI n)), some (.int v)] [] (zmk r c0 c1 c2 I J Q N A Ga Va t) = some (none, zmk r c0 c1 c2 (va_up I (12 + j) (nI n)) J (va_up Q (19 + j) (fun i => if i < 60 then v else Q (19 + j) i)) N A Ga Va t) := by
  have e : (if (0 : Int32) < (if nI 60 < nI n then nI 60 else nI n) then (if nI 60 < nI n then nI 60 else nI n) else (0 : Int32)) = nI n := by
    rw [if_neg (nI_nlt h6 (show 60 < 2 ^ 31 by decide))]
    cases n with
    | zero => rfl
    | succ n => rw [if_pos (show (0 : Int32) < nI (n + 1) from nI_lt (a := 0) (Nat.succ_pos n) (by omega))]
  simp only [E_X4_renew_0, mgv_t hj, mnv_t hj, Option.bind_some, nI_of0, e, mps_t hj, wt_fill hj, zcV_some]
theorem wt_disc (hj : j < 4) : zev r i_X4_discard 0 [some (.ref (r.1 + 35 + 2 * j))] [] (zmk r c0 c1 c2 I J Q N A Ga Va t) = some (none, zmk r c0 c1 c2 (va_up I (12 + j) (-1)) J Q N A Ga Va t) := by
  simp only [E_X4_discard_0, mps_t hj, Option.bind_some]
theorem wt_dig (hj : j < 4) {n : Nat} (hn : I (12 + j) = nI n) (h6 : n ≤ 60) (g : Int64) : zev r i_X4_digestedOnto 0 [some (.ref (r.1 + 35 + 2 * j)), some (.long g), none, none, none, none] [] (zmk r c0 c1 c2 I J Q N A Ga Va t) = some (some (.long (zfd (fun a i => 31 * a + (Q (19 + j) i).toInt64) 0 n (31 * g + (nI n).toInt64))), zmk r c0 c1 c2 I J Q N A Ga Va t) := by
  simp only [E_X4_digestedOnto_0, mgs_t hj, Option.bind_some, hn]
  refine zloop (fun i (a : Int64) => zev r i_X4_digestedOnto 15 [some (.ref (r.1 + 35 + 2 * j)), some (.long g), none, some (.long a), none, some (.int (nI i))] [] (zmk r c0 c1 c2 I J Q N A Ga Va t)) (fun a => some (some (.long a), zmk r c0 c1 c2 I J Q N A Ga Va t)) _ n (fun i a hi => ?_) (fun a => ?_) _
  · refine (E_X4_digestedOnto_15 ..).trans ?_
    simp only [mgs_t hj, Option.bind_some, hn, if_pos (nI_lt hi (show n < 2 ^ 31 by omega)), mo_t hj, if_true, wt_get hj hn h6, zcI_some, zhk_in hi (show n < 2 ^ 31 by omega), i01, if_false, nI_clamp (show i < 2 ^ 31 by omega), nI_1]
  · refine (E_X4_digestedOnto_15 ..).trans ?_
    simp only [mgs_t hj, Option.bind_some, hn, if_neg (nI_nlt (Nat.le_refl n) (show n < 2 ^ 31 by omega))]
theorem wt_dig1 (hj : j < 4) (hn : I (12 + j) = -1) (g : Int64) : zev r i_X4_digestedOnto 0 [some (.ref (r.1 + 35 + 2 * j)), some (.long g), none, none, none, none] [] (zmk r c0 c1 c2 I J Q N A Ga Va t) = some (some (.long (31 * g + (-1 : Int32).toInt64)), zmk r c0 c1 c2 I J Q N A Ga Va t) := by
  simp only [E_X4_digestedOnto_0, mgs_t hj, Option.bind_some, hn]
  refine (E_X4_digestedOnto_15 ..).trans ?_
  simp only [mgs_t hj, Option.bind_some, hn, if_neg (show ¬ (0 : Int32) < -1 by decide)]
end ROWS
section CALLS1
variable {r : zE} {C : zCs} {d : Nat} {M : Nat → zDk} {K : Nat → Option (Nat × (Nat → zDk))} {W Tx : Nat → Option (List Int32)} {ta : Int32} {tu tl : Int64} {Ga Va : zA} {n : Nat} {h : zH}
theorem st_ob (st : zSt r C d M K W Tx ta tu tl Ga Va n h) : zob r h (r.1 + 0) 5 = true := by
  obtain ⟨c, c2, I, J, Q, N, A, t, rfl, iv, t1, t2⟩ := st
  exact mo_0
theorem st_k (st : zSt r C d M K W Tx ta tu tl Ga Va n h) : zCk C := by
  obtain ⟨c, c2, I, J, Q, N, A, t, rfl, iv, t1, t2⟩ := st
  exact iv.1
theorem rw_some {s : Int32} {f : zA} {o : Option (List Int32)} {l : List Int32} {mx : Nat} (h : zRw s f o mx) (e : o = some l) : l.length ≤ mx ∧ s = nI l.length ∧ ∀ i, i < l.length → f i = l.getD i 0 := by
  subst e; exact h
theorem rw_none {s : Int32} {f : zA} {o : Option (List Int32)} {mx : Nat} (h : zRw s f o mx) (e : o = none) : s = -1 := by
  subst e; exact h
theorem getD_rep {k i : Nat} {v : Int32} (h : i < k) : (List.replicate k v).getD i 0 = v := by
  rw [List.getD_eq_getElem?_getD, List.getElem?_replicate, if_pos h]; rfl
theorem getD_setI {l : List Int32} {i : Nat} (hi : i < l.length) (v : Int32) (q : Nat) : (l.set i v).getD q 0 = if q = i then v else l.getD q 0 := by
  rw [List.getD_eq_getElem?_getD, List.getD_eq_getElem?_getD, List.getElem?_set]
  by_cases e : q = i
  · subst e; rw [if_pos rfl, if_pos hi, if_pos rfl]; rfl
  · rw [if_neg (Ne.symm e), if_neg e]
theorem ck_row {j k : Nat} (hj : j < 6) (hk : k ≤ 40) (st : zSt r C d M K W Tx ta tu tl Ga Va n h) : ∃ h', zev r i_X5_row 0 [some (.ref (r.1 + 0)), some (.int (nI j)), some (.int (nI k))] [] h = some (some (.int (nI k)), h') ∧ zSt r C d M K (va_up W j (some (List.replicate k 0))) Tx ta tu tl Ga Va n h' := by
  obtain ⟨c, c2, I, J, Q, N, A, t, rfl, iv, t1, t2⟩ := st
  have e : zhk 6 (nI j) = 1 := zhk_in hj (by decide)
  have b1 : ¬ (40 : Int32) < nI k := nI_nlt (b := k) (a := 40) hk (by decide)
  have b2 : ¬ nI k < 0 := nI_pos (by omega)
  refine ⟨(zmk r c c c2 (va_up I (6 + j) (nI k)) J (va_up Q (13 + j) (fun i => if i < 60 then 0 else Q (13 + j) i)) N A Ga Va t), ?_, st_mk (iv_row iv hj ⟨?_, ?_, fun i hi => ?_⟩) t1 t2⟩
  · simp only [E_X5_row_0, mo_0, mg_0_0, mg_0_1, mg_0_2, mg_0_3, mg_0_4, mg_0_5, mg_0_6, mg_0_7, mg_0_8, mg_0_9, mg_0_10, mg_0_11, if_true, k_rowAt, e, i01, if_false, zcQ_ref, nI_clamp (show j < 2 ^ 31 by omega), E_X5_renewed_0, if_neg b1, if_neg b2, zcI_some, mo_r hj, wr_renew hj (show k ≤ 60 by omega), zcV_some]
  · rw [List.length_replicate]; exact hk
  · rw [List.length_replicate]
  · rw [List.length_replicate] at hi
    rw [getD_rep hi, if_pos (by omega)]
theorem ck_lay {j i : Nat} {l : List Int32} (v : Int32) (hj : j < 6) (hW : W j = some l) (hi : i < l.length) (st : zSt r C d M K W Tx ta tu tl Ga Va n h) : ∃ h', zev r i_X5_lay 0 [some (.ref (r.1 + 0)), some (.int (nI j)), some (.int (nI i)), some (.int v), none] [] h = some (some (.int 1), h') ∧ zSt r C d M K (va_up W j (some (l.set i v))) Tx (l.getD i 0) tu tl Ga Va n h' := by
  obtain ⟨c, c2, I, J, Q, N, A, t, rfl, iv, t1, t2⟩ := st
  obtain ⟨hm, s1, s3⟩ := rw_some (iv.2.2.2.2.2.2.2.1 j hj) hW
  have e : zhk 6 (nI j) = 1 := zhk_in hj (by decide)
  have e2 : zhk l.length (nI i) = 1 := zhk_in hi (by omega)
  have iv2 := iv_told (Q (13 + j) i) (iv_row iv hj (s := I (6 + j)) (f := upd (Q (13 + j)) i v) (o := some (l.set i v)) ⟨by rw [List.length_set]; exact hm, by rw [List.length_set]; exact s1, fun q hq => by
    rw [List.length_set] at hq
    rw [getD_setI hi]
    by_cases z : q = i
    · subst z; rw [if_pos rfl, pk_us]
    · rw [if_neg z, pk_un z]; exact s3 q hq⟩)
  rw [va_self] at iv2
  rw [← s3 i hi]
  refine ⟨(zmk r c c c2 (va_up I 0 (Q (13 + j) i)) J (va_up Q (13 + j) (upd (Q (13 + j)) i v)) N A Ga Va t), ?_, st_mk iv2 t1 t2⟩
  simp only [E_X5_lay_0, mo_0, mg_0_0, mg_0_1, mg_0_2, mg_0_3, mg_0_4, mg_0_5, mg_0_6, mg_0_7, mg_0_8, mg_0_9, mg_0_10, mg_0_11, if_true, k_rowAt, e, i01, if_false, zcQ_ref, nI_clamp (show j < 2 ^ 31 by omega), mo_r hj, wr_miss hj, s1, nI_m1 (show l.length < 2 ^ 31 by omega), zcI_some, wr_has hj s1, e2, wr_get hj s1 (show l.length ≤ 60 by omega), nI_clamp (show i < 2 ^ 31 by omega), k_tell, zcV_some]
  rw [wr_set hj (show va_up I 0 (Q (13 + j) i) (6 + j) = nI l.length by rw [va_ne (by omega), s1]) (by omega) hi]
  rfl
theorem ck_at {j i : Nat} {l : List Int32} (hj : j < 6) (hW : W j = some l) (hi : i < l.length) (st : zSt r C d M K W Tx ta tu tl Ga Va n h) : ∃ h', zev r i_X5_at 0 [some (.ref (r.1 + 0)), some (.int (nI j)), some (.int (nI i)), none] [] h = some (some (.int 1), h') ∧ zSt r C d M K W Tx (l.getD i 0) tu tl Ga Va n h' := by
  obtain ⟨c, c2, I, J, Q, N, A, t, rfl, iv, t1, t2⟩ := st
  obtain ⟨hm, s1, s3⟩ := rw_some (iv.2.2.2.2.2.2.2.1 j hj) hW
  have e : zhk 6 (nI j) = 1 := zhk_in hj (by decide)
  have e2 : zhk l.length (nI i) = 1 := zhk_in hi (by omega)
  rw [← s3 i hi]
  refine ⟨(zmk r c c c2 (va_up I 0 (Q (13 + j) i)) J Q N A Ga Va t), ?_, st_mk (iv_told _ iv) t1 t2⟩
  simp only [E_X5_at_0, mo_0, mg_0_0, mg_0_1, mg_0_2, mg_0_3, mg_0_4, mg_0_5, mg_0_6, mg_0_7, mg_0_8, mg_0_9, mg_0_10, mg_0_11, if_true, k_rowAt, e, i01, if_false, zcQ_ref, nI_clamp (show j < 2 ^ 31 by omega), mo_r hj, wr_miss hj, s1, nI_m1 (show l.length < 2 ^ 31 by omega), zcI_some, wr_has hj s1, e2, wr_get hj s1 (show l.length ≤ 60 by omega), nI_clamp (show i < 2 ^ 31 by omega), k_tell, zcV_some]
theorem ck_at_no {j i : Nat} {l : List Int32} (hj : j < 6) (hW : W j = some l) (hi : l.length ≤ i) (h31 : i < 2 ^ 31) (st : zSt r C d M K W Tx ta tu tl Ga Va n h) : ∃ h', zev r i_X5_at 0 [some (.ref (r.1 + 0)), some (.int (nI j)), some (.int (nI i)), none] [] h = some (some (.int (-3)), h') ∧ zSt r C d M K W Tx ta tu tl Ga Va n h' := by
  obtain ⟨c, c2, I, J, Q, N, A, t, rfl, iv, t1, t2⟩ := st
  obtain ⟨hm, s1, s3⟩ := rw_some (iv.2.2.2.2.2.2.2.1 j hj) hW
  have e : zhk 6 (nI j) = 1 := zhk_in hj (by decide)
  have e2 : zhk l.length (nI i) = 0 := zhk_out hi h31
  refine ⟨(zmk r c c c2 (va_up I 1 (nI 2)) J (va_up Q 0 (upd (Q 0) 2 (Q 0 2 + 1))) N A Ga Va t), ?_, st_mk (iv_found _ _ iv) t1 t2⟩
  have f2 : zev r i_X5_found 0 [some (.ref (r.1 + 0)), some (.int 2)] [] ((zmk r c c c2 I J Q N A Ga Va t)) = some (some (.int (-3)), (zmk r c c c2 (va_up I 1 (nI 2)) J (va_up Q 0 (upd (Q 0) 2 (Q 0 2 + 1))) N A Ga Va t)) := k_found (f := 2) (by decide) (by decide)
  simp only [E_X5_at_0, mo_0, mg_0_0, mg_0_1, mg_0_2, mg_0_3, mg_0_4, mg_0_5, mg_0_6, mg_0_7, mg_0_8, mg_0_9, mg_0_10, mg_0_11, if_true, k_rowAt, e, i01, if_false, zcQ_ref, nI_clamp (show j < 2 ^ 31 by omega), mo_r hj, wr_miss hj, s1, nI_m1 (show l.length < 2 ^ 31 by omega), zcI_some, wr_has hj s1, e2, f2]
theorem ck_tear {j : Nat} {l : List Int32} (hj : j < 6) (hW : W j = some l) (st : zSt r C d M K W Tx ta tu tl Ga Va n h) : ∃ h', zev r i_X5_tear 0 [some (.ref (r.1 + 0)), some (.int (nI j)), none] [] h = some (some (.int 1), h') ∧ zSt r C d M K (va_up W j none) Tx ta tu tl Ga Va n h' := by
  obtain ⟨c, c2, I, J, Q, N, A, t, rfl, iv, t1, t2⟩ := st
  obtain ⟨hm, s1, s3⟩ := rw_some (iv.2.2.2.2.2.2.2.1 j hj) hW
  have e : zhk 6 (nI j) = 1 := zhk_in hj (by decide)
  have iv2 := iv_row iv hj (s := -1) (f := Q (13 + j)) (o := none) rfl
  rw [va_self] at iv2
  refine ⟨(zmk r c c c2 (va_up I (6 + j) (-1)) J Q N A Ga Va t), ?_, st_mk iv2 t1 t2⟩
  simp only [E_X5_tear_0, mo_0, mg_0_0, mg_0_1, mg_0_2, mg_0_3, mg_0_4, mg_0_5, mg_0_6, mg_0_7, mg_0_8, mg_0_9, mg_0_10, mg_0_11, if_true, k_rowAt, e, i01, if_false, zcQ_ref, nI_clamp (show j < 2 ^ 31 by omega), mo_r hj, wr_miss hj, s1, nI_m1 (show l.length < 2 ^ 31 by omega), zcI_some, wr_disc hj, zcV_some]
theorem ck_text {j k : Nat} (hj : j < 4) (hk : k ≤ 60) (st : zSt r C d M K W Tx ta tu tl Ga Va n h) : ∃ h', zev r i_X5_text 0 [some (.ref (r.1 + 0)), some (.int (nI j)), some (.int (nI k))] [] h = some (some (.int (nI k)), h') ∧ zSt r C d M K W (va_up Tx j (some (List.replicate k 32))) ta tu tl Ga Va n h' := by
  obtain ⟨c, c2, I, J, Q, N, A, t, rfl, iv, t1, t2⟩ := st
  have e : zhk 4 (nI j) = 1 := zhk_in hj (by decide)
  have b1 : ¬ (60 : Int32) < nI k := nI_nlt (b := k) (a := 60) hk (by decide)
  have b2 : ¬ nI k < 0 := nI_pos (by omega)
  refine ⟨(zmk r c c c2 (va_up I (12 + j) (nI k)) J (va_up Q (19 + j) (fun i => if i < 60 then 32 else Q (19 + j) i)) N A Ga Va t), ?_, st_mk (iv_text iv hj ⟨?_, ?_, fun i hi => ?_⟩) t1 t2⟩
  · simp only [E_X5_text_0, mo_0, mg_0_0, mg_0_1, mg_0_2, mg_0_3, mg_0_4, mg_0_5, mg_0_6, mg_0_7, mg_0_8, mg_0_9, mg_0_10, mg_0_11, if_true, k_textAt, e, i01, if_false, zcQ_ref, nI_clamp (show j < 2 ^ 31 by omega), E_X5_renewed_0, if_neg b1, if_neg b2, zcI_some, mo_t hj, wt_renew hj (show k ≤ 60 by omega), zcV_some]
  · rw [List.length_replicate]; exact hk
  · rw [List.length_replicate]
  · rw [List.length_replicate] at hi
    rw [getD_rep hi, if_pos (by omega)]
theorem ck_put {j i : Nat} {l : List Int32} (v : Int32) (hj : j < 4) (hW : Tx j = some l) (hi : i < l.length) (st : zSt r C d M K W Tx ta tu tl Ga Va n h) : ∃ h', zev r i_X5_put 0 [some (.ref (r.1 + 0)), some (.int (nI j)), some (.int (nI i)), some (.int v), none, none] [] h = some (some (.int (l.getD i 0 + 1000)), h') ∧ zSt r C d M K W (va_up Tx j (some (l.set i v.toInt8.toInt32))) ta tu tl Ga Va n h' := by
  obtain ⟨c, c2, I, J, Q, N, A, t, rfl, iv, t1, t2⟩ := st
  obtain ⟨hm, s1, s3⟩ := rw_some (iv.2.2.2.2.2.2.2.2.1 j hj) hW
  have e : zhk 4 (nI j) = 1 := zhk_in hj (by decide)
  have e2 : zhk l.length (nI i) = 1 := zhk_in hi (by omega)
  have iv2 := iv_text iv hj (s := I (12 + j)) (f := upd (Q (19 + j)) i v.toInt8.toInt32) (o := some (l.set i v.toInt8.toInt32)) ⟨by rw [List.length_set]; exact hm, by rw [List.length_set]; exact s1, fun q hq => by
    rw [List.length_set] at hq
    rw [getD_setI hi]
    by_cases z : q = i
    · subst z; rw [if_pos rfl, pk_us]
    · rw [if_neg z, pk_un z]; exact s3 q hq⟩
  rw [va_self] at iv2
  rw [← s3 i hi]
  refine ⟨(zmk r c c c2 I J (va_up Q (19 + j) (upd (Q (19 + j)) i v.toInt8.toInt32)) N A Ga Va t), ?_, st_mk iv2 t1 t2⟩
  simp only [E_X5_put_0, mo_0, mg_0_0, mg_0_1, mg_0_2, mg_0_3, mg_0_4, mg_0_5, mg_0_6, mg_0_7, mg_0_8, mg_0_9, mg_0_10, mg_0_11, if_true, k_textAt, e, i01, if_false, zcQ_ref, nI_clamp (show j < 2 ^ 31 by omega), mo_t hj, wt_miss hj, s1, nI_m1 (show l.length < 2 ^ 31 by omega), zcI_some, wt_has hj s1, e2, wt_get hj s1 (show l.length ≤ 60 by omega), nI_clamp (show i < 2 ^ 31 by omega), wt_set hj s1 (show l.length ≤ 60 by omega) hi, zcV_some]
/-- a call that tells asked(), upper(), lower() -/
theorem ck_asked (st : zSt r C d M K W Tx ta tu tl Ga Va n h) : zev r i_X5_asked 0 [some (.ref (r.1 + 0))] [] h = some (some (.int ta), h) := by
  obtain ⟨c, c2, I, J, Q, N, A, t, rfl, iv, t1, t2⟩ := st
  obtain ⟨-, -, -, -, -, -, -, -, -, e, -⟩ := iv
  simp only [E_X5_asked_0, mo_0, mg_0_0, mg_0_1, mg_0_2, mg_0_3, mg_0_4, mg_0_5, mg_0_6, mg_0_7, mg_0_8, mg_0_9, mg_0_10, mg_0_11, Option.bind_some, e]
theorem ck_upper (st : zSt r C d M K W Tx ta tu tl Ga Va n h) : zev r i_X5_upper 0 [some (.ref (r.1 + 0))] [] h = some (some (.long tu), h) := by
  obtain ⟨c, c2, I, J, Q, N, A, t, rfl, iv, t1, t2⟩ := st
  obtain ⟨-, -, -, -, -, -, -, -, -, -, e, -⟩ := iv
  simp only [E_X5_upper_0, mo_0, mg_0_0, mg_0_1, mg_0_2, mg_0_3, mg_0_4, mg_0_5, mg_0_6, mg_0_7, mg_0_8, mg_0_9, mg_0_10, mg_0_11, Option.bind_some, e]
theorem ck_lower (st : zSt r C d M K W Tx ta tu tl Ga Va n h) : zev r i_X5_lower 0 [some (.ref (r.1 + 0))] [] h = some (some (.long tl), h) := by
  obtain ⟨c, c2, I, J, Q, N, A, t, rfl, iv, t1, t2⟩ := st
  obtain ⟨-, -, -, -, -, -, -, -, -, -, -, e⟩ := iv
  simp only [E_X5_lower_0, mo_0, mg_0_0, mg_0_1, mg_0_2, mg_0_3, mg_0_4, mg_0_5, mg_0_6, mg_0_7, mg_0_8, mg_0_9, mg_0_10, mg_0_11, Option.bind_some, e]
end CALLS1
end
section
/-! WHAT IS TOLD OF THE DECK AS IT IS: calls -/
section NOW
variable {r : zE} {c0 c1 c2 : Nat} {I : Nat → Int32} {J : Nat → Int64} {Q : Nat → Nat → Int32} {N A : zBr} {Ga Va : Nat → Int32} {t : zH} {C : zCs} {c n : Nat}
theorem nBx (h : zCt r t c C) : zBx r (r.1 + 9) (r.1 + c) C (fun B => zmk r c0 c c2 I J Q B A Ga Va t) := fun B => ⟨h .., mo_9, mg_9_0, mg_9_1, mg_9_2, mg_9_3, mg_9_4, fun j hj => ma_10 hj, fun j hj => ma_11 hj, fun j hj => ma_12 hj, fun j hj => ma_13 hj, fun j y hj => mw_10 hj, fun j y hj => mw_11 hj, fun j y hj => mw_12 hj, fun j y hj => mw_13 hj, mn_10, mn_11⟩
theorem aBx (h : zCt r t c C) : zBx r (r.1 + 14) (r.1 + c) C (fun B => zmk r c0 c1 c I J Q N B Ga Va t) := fun B => ⟨h .., mo_14, mg_14_0, mg_14_1, mg_14_2, mg_14_3, mg_14_4, fun j hj => ma_15 hj, fun j hj => ma_16 hj, fun j hj => ma_17 hj, fun j hj => ma_18 hj, fun j y hj => mw_15 hj, fun j y hj => mw_16 hj, fun j y hj => mw_17 hj, fun j y hj => mw_18 hj, mn_15, mn_16⟩
theorem who_g {H G : zA} (g : zCG C H G) (k : zCk C) {H' : zA} (e : ∀ m, m < C.2.1 → H' m = H m) {j : Nat} (hj : j < C.1) : sWho H' (nI j) 0 C.2.1 = G j := by
  have key : ∀ n b, b + n = C.2.1 → (∀ m, m < b → ¬ H' m = nI j) → sWho H' (nI j) b n = G j := by
    intro n
    induction n with
    | zero =>
      intro b hb nb
      rcases g.2 j hj with q | ⟨m, a1, a2, a3⟩
      · exact q.symm
      · exact absurd ((e m a1).trans a3) (nb m (by omega))
    | succ n ih =>
      intro b hb nb
      rw [sWho]
      by_cases q : H' b = nI j
      · rw [if_pos q]
        rcases g.1 b (by omega) with w | ⟨j2, a1, a2, a3⟩
        · have h7 := k.1
          exact absurd (q.symm.trans ((e b (by omega)).trans w)) (nI_n9 (by omega))
        · have h7 := k.1
          have : j2 = j := (nI_eq (by omega) (by omega)).mp (a2.symm.trans ((e b (by omega)).symm.trans q))
          subst this
          exact a3.symm
      · rw [if_neg q]
        exact ih (b + 1) (by omega) fun m hm => by
          by_cases w : m = b
          · subst w; exact q
          · exact nb m (by omega)
  exact key C.2.1 0 (by omega) fun m hm => absurd hm (Nat.not_lt_zero m)
end NOW
section CALLS2
variable {r : zE} {C : zCs} {d : Nat} {M : Nat → zDk} {K : Nat → Option (Nat × (Nat → zDk))} {W Tx : Nat → Option (List Int32)} {ta : Int32} {tu tl : Int64} {Ga Va : zA} {n : Nat} {h : zH}
theorem de_h {C : zCs} {N : zBr} {D : zDk} (e : zDe C N D) : ∀ m, m < C.2.1 → N.1 m = D.1 m := fun m hm => (e m hm).1
theorem de_l {C : zCs} {N : zBr} {D : zDk} (e : zDe C N D) : ∀ m, m < C.2.1 → N.2.2.1 m = D.2.1 m := fun m hm => (e m hm).2.1
theorem de_t {C : zCs} {N : zBr} {D : zDk} (e : zDe C N D) : ∀ m, m < C.2.1 → N.2.2.2 m = D.2.2 m := fun m hm => (e m hm).2.2
theorem de_man {C : zCs} {N : zBr} {D : zDk} (e : zDe C N D) {m : Nat} (hm : m < C.2.1) (i : Int32) : sMan C N.1 N.2.2.1 N.2.2.2 m i = sMan C D.1 D.2.1 D.2.2 m i := by
  obtain ⟨e1, e2, e3⟩ := e m hm
  unfold sMan
  rw [e1, e2, e3]
theorem ck_man {m i : Nat} (hm : m < C.2.1) (hi : i < 6) (st : zSt r C d M K W Tx ta tu tl Ga Va n h) : ∃ h', zev r i_X5_man 0 [some (.ref (r.1 + 0)), some (.int (nI m)), some (.int (nI i))] [] h = some (some (.int 1), h') ∧ zSt r C d M K W Tx (sMan C (M d).1 (M d).2.1 (M d).2.2 m (nI i)) tu tl Ga Va n h' := by
  obtain ⟨c, c2, I, J, Q, N, A, t, rfl, iv, t1, t2⟩ := st
  obtain ⟨k, hC, no, de, -⟩ := id iv
  have e : zhk C.2.1 (nI m) = 1 := zhk_in hm (by have := k.2.1; omega)
  have b1 : ¬ nI i < 0 := nI_pos (by omega)
  have b2 : nI i < 6 := nI_lt (b := 6) hi (by decide)
  rw [← de_man de hm]
  refine ⟨(zmk r c c c2 (va_up I 0 (sMan C N.1 N.2.2.1 N.2.2.2 m (nI i))) J Q N A Ga Va t), ?_, st_mk (iv_told _ iv) t1 t2⟩
  simp only [E_X5_man_0, mo_0, mg_0_0, mg_0_1, mg_0_2, mg_0_3, mg_0_4, mg_0_5, mg_0_6, mg_0_7, mg_0_8, mg_0_9, mg_0_10, mg_0_11, mo_9, Option.bind_some, (hC ..).1, if_true, cr_man (hC ..), e, i01, if_false, b1, b2, b_man (nBx hC) k hm, k_tell, zcV_some, zcI_some]
theorem ck_hook {m : Nat} (hm : m < C.1) (st : zSt r C d M K W Tx ta tu tl Ga Va n h) : ∃ h', zev r i_X5_hook 0 [some (.ref (r.1 + 0)), some (.int (nI m)), some (.int 1)] [] h = some (some (.int 1), h') ∧ zSt r C d M K W Tx (sWho (M d).1 (nI m) 0 C.2.1) tu tl Ga Va n h' := by
  obtain ⟨c, c2, I, J, Q, N, A, t, rfl, iv, t1, t2⟩ := st
  obtain ⟨k, hC, no, de, -⟩ := id iv
  have e : zhk C.1 (nI m) = 1 := zhk_in hm (by have := k.1; omega)
  rw [who_g no.1 k (fun q hq => (de_h de q hq).symm) hm]
  refine ⟨(zmk r c c c2 (va_up I 0 (N.2.1 m)) J Q N A Ga Va t), ?_, st_mk (iv_told _ iv) t1 t2⟩
  simp only [E_X5_hook_0, mo_0, mg_0_0, mg_0_1, mg_0_2, mg_0_3, mg_0_4, mg_0_5, mg_0_6, mg_0_7, mg_0_8, mg_0_9, mg_0_10, mg_0_11, mo_9, Option.bind_some, (hC ..).1, if_true, cr_hook (hC ..), e, i01, if_false, show ¬ (1 : Int32) < 0 by decide, show (1 : Int32) < 2 by decide, b_hook (nBx hC) k hm, k_tell, zcV_some, zcI_some]
theorem ck_neighbours {m w : Nat} (hm : m < C.2.1) (hw : w < 3) (st : zSt r C d M K W Tx ta tu tl Ga Va n h) : zev r i_X5_neighbours 0 [some (.ref (r.1 + 0)), some (.int (nI m)), some (.int (nI w))] [] h = some (some (.int (sBe C (M d).1 m (nI w))), h) := by
  obtain ⟨c, c2, I, J, Q, N, A, t, rfl, iv, t1, t2⟩ := st
  obtain ⟨k, hC, no, de, -⟩ := id iv
  have e : zhk C.2.1 (nI m) = 1 := zhk_in hm (by have := k.2.1; omega)
  have f : zhk 3 (nI w) = 1 := zhk_in hw (by decide)
  rw [← sBe_c hm (de_h de)]
  simp only [E_X5_neighbours_0, mo_0, mg_0_0, mg_0_1, mg_0_2, mg_0_3, mg_0_4, mg_0_5, mg_0_6, mg_0_7, mg_0_8, mg_0_9, mg_0_10, mg_0_11, mo_9, Option.bind_some, (hC ..).1, if_true, cr_man (hC ..), e, i01, if_false, k_when, f, b_neigh (nBx hC) k no.1 hm, zcI_some]
theorem ck_woken (E : zEk r) {m w : Nat} (hm : m < C.2.1) (hw : w < 3) (st : zSt r C d M K W Tx ta tu tl Ga Va n h) : zev r i_X5_woken 0 [some (.ref (r.1 + 0)), some (.int (nI m)), some (.int (nI w))] [] h = some (some (.int (sWo C (M d).1 (M d).2.1 m (nI w) (-9))), h) := by
  obtain ⟨c, c2, I, J, Q, N, A, t, rfl, iv, t1, t2⟩ := st
  obtain ⟨k, hC, no, de, -⟩ := id iv
  have e : zhk C.2.1 (nI m) = 1 := zhk_in hm (by have := k.2.1; omega)
  have f : zhk 3 (nI w) = 1 := zhk_in hw (by decide)
  rw [← sWo_c hm (de_h de) (de_l de)]
  simp only [E_X5_woken_0, mo_0, mg_0_0, mg_0_1, mg_0_2, mg_0_3, mg_0_4, mg_0_5, mg_0_6, mg_0_7, mg_0_8, mg_0_9, mg_0_10, mg_0_11, mo_9, Option.bind_some, (hC ..).1, if_true, cr_man (hC ..), e, i01, if_false, k_when, f, b_wak (nBx hC) k E no.2.1 no.1 hm, zcI_some]
theorem ck_all (E : zEk r) {w : Nat} (hw : w < 3) (st : zSt r C d M K W Tx ta tu tl Ga Va n h) : ∃ h', zev r i_X5_all 0 [some (.ref (r.1 + 0)), some (.int (nI w))] [] h = some (some (.int (sAll C (M d).1 (M d).2.1 (nI w))), h') ∧ zSt r C d M K W Tx (sMany C (M d).1 (nI w)) tu tl Ga Va n h' := by
  obtain ⟨c, c2, I, J, Q, N, A, t, rfl, iv, t1, t2⟩ := st
  obtain ⟨k, hC, no, de, -⟩ := id iv
  have f : zhk 3 (nI w) = 1 := zhk_in hw (by decide)
  rw [← sAll_c (de_h de) (de_l de), ← sMany_c (de_h de)]
  refine ⟨(zmk r c c c2 (va_up I 0 (sMany C N.1 (nI w))) J Q N A Ga Va t), ?_, st_mk (iv_told _ iv) t1 t2⟩
  simp only [E_X5_all_0, mo_0, mg_0_0, mg_0_1, mg_0_2, mg_0_3, mg_0_4, mg_0_5, mg_0_6, mg_0_7, mg_0_8, mg_0_9, mg_0_10, mg_0_11, mo_9, Option.bind_some, if_true, i01, if_false, k_when, f, b_many (nBx hC) k, k_tell, zcV_some, b_all (nBx hC) k E no.2.1 no.1, zcI_some]
/-- who is woken most, so far -/
def yWs (C : zCs) (H L : zA) (w : Int32) (s : Int32 × Int32) (m : Nat) : Int32 × Int32 := if sIn C H m w = 0 then s else if s.2 < sWo C H L m w (-9) then (nI m, sWo C H L m w (-9)) else s
theorem yWs_c {C : zCs} {H H' L L' : zA} (e : ∀ k, k < C.2.1 → H' k = H k) (el : ∀ k, k < C.2.1 → L' k = L k) (w : Int32) (s : Int32 × Int32) : zfd (yWs C H' L' w) 0 C.2.1 s = zfd (yWs C H L w) 0 C.2.1 s := zfd_congr fun s k _ hk => by
  unfold yWs
  rw [sIn_c (e k (by omega)), sWo_c (by omega) e el]
theorem ck_worst (E : zEk r) {w : Nat} (hw : w < 3) (st : zSt r C d M K W Tx ta tu tl Ga Va n h) : ∃ h', zev r i_X5_worst 0 [some (.ref (r.1 + 0)), some (.int (nI w)), none, none, none, none] [] h = some (some (.int (zfd (yWs C (M d).1 (M d).2.1 (nI w)) 0 C.2.1 (-9, -1)).1), h') ∧ zSt r C d M K W Tx (if (zfd (yWs C (M d).1 (M d).2.1 (nI w)) 0 C.2.1 (-9, -1)).1 = -9 then ta else (zfd (yWs C (M d).1 (M d).2.1 (nI w)) 0 C.2.1 (-9, -1)).2) tu tl Ga Va n h' := by
  obtain ⟨c, c2, I, J, Q, N, A, t, rfl, iv, t1, t2⟩ := st
  obtain ⟨k, hC, no, de, -⟩ := id iv
  have f : zhk 3 (nI w) = 1 := zhk_in hw (by decide)
  rw [← yWs_c (de_h de) (de_l de)]
  have hv : ∀ s : Int32 × Int32, ∃ q : Int32 × Int32, q = zfd (yWs C N.1 N.2.2.1 (nI w)) 0 C.2.1 s := fun s => ⟨_, rfl⟩
  obtain ⟨q, hq⟩ := hv (-9, -1)
  have e1 : zev r i_X5_worst 0 [some (.ref (r.1 + 0)), some (.int (nI w)), none, none, none, none] [] (zmk r c c c2 I J Q N A Ga Va t) = some (some (.int q.1), if q.1 = -9 then (zmk r c c c2 I J Q N A Ga Va t) else (zmk r c c c2 (va_up I 0 q.2) J Q N A Ga Va t)) := by
    simp only [E_X5_worst_0, k_when, f, i01, if_false, zcI_some]
    have := zloop (fun j (s : Int32 × Int32) => zev r i_X5_worst 17 [some (.ref (r.1 + 0)), some (.int (nI w)), some (.int s.1), some (.int s.2), some (.int (nI j)), none] [] (zmk r c c c2 I J Q N A Ga Va t)) (fun s => some (some (.int s.1), if s.1 = -9 then (zmk r c c c2 I J Q N A Ga Va t) else (zmk r c c c2 (va_up I 0 s.2) J Q N A Ga Va t))) (yWs C N.1 N.2.2.1 (nI w)) C.2.1 (fun j s hj => by
      refine (E_X5_worst_17 ..).trans ?_
      simp only [mo_0, mg_0_0, mg_0_1, mg_0_2, mg_0_3, mg_0_4, mg_0_5, mg_0_6, mg_0_7, mg_0_8, mg_0_9, mg_0_10, mg_0_11, mo_9, (hC ..).2.2.1, Option.bind_some, if_pos (nI_lt6 k hj), if_true, b_wak (nBx hC) k E no.2.1 no.1 hj, b_in (nBx hC) k hj, zcI_some, nI_1, yWs]
      split
      · rfl
      · split <;> rfl) (fun s => by
      refine (E_X5_worst_17 ..).trans ?_
      simp only [mo_0, mg_0_0, mg_0_1, mg_0_2, mg_0_3, mg_0_4, mg_0_5, mg_0_6, mg_0_7, mg_0_8, mg_0_9, mg_0_10, mg_0_11, (hC ..).2.2.1, Option.bind_some, if_neg (nI_nlt6 k), if_true, k_tell, zcV_some]
      split <;> rfl) (-9, -1)
    rw [← hq] at this
    exact this
  rw [← hq]
  by_cases z : q.1 = -9
  · rw [if_pos z] at e1
    rw [if_pos z]
    exact ⟨_, e1, st_mk iv t1 t2⟩
  · rw [if_neg z] at e1
    rw [if_neg z]
    exact ⟨_, e1, st_mk (iv_told _ iv) t1 t2⟩
end CALLS2
end
section
/-! BERTHS: moving -/
section MOVE
variable {r : zE} {x c : Nat} {C : zCs} {F : zBr → zH} {B : zBr}
theorem upd_s {f : zA} {k : Nat} {v : Int32} : upd f k v k = v := pk_us
theorem upd_n {f : zA} {k j : Nat} {v : Int32} (h : j ≠ k) : upd f k v j = f j := pk_un h
/-- a free hook, or none -/
def zFree (C : zCs) (G : zA) (h : Int32) : Prop := h = -9 ∨ ∃ j, j < C.1 ∧ h = nI j ∧ G j = -9
theorem cg_off {H G : zA} (k : zCk C) (g : zCG C H G) {m : Nat} (hm : m < C.2.1) {j : Nat} (hj : j < C.1) (e : H m = nI j) : zCG C (upd H m (-9)) (upd G j (-9)) := by
  have k1 := k.1
  have k2 := k.2.1
  have gj : G j = nI m := by
    rcases g.1 m hm with q | ⟨j2, a1, a2, a3⟩
    · exact absurd (e.symm.trans q) (nI_n9 (by omega))
    · have : j2 = j := (nI_eq (by omega) (by omega)).mp (a2.symm.trans e)
      subst this; exact a3
  refine ⟨fun q hq => ?_, fun i hi => ?_⟩
  · by_cases w : q = m
    · subst w; exact .inl upd_s
    · rw [upd_n w]
      rcases g.1 q hq with z | ⟨j2, a1, a2, a3⟩
      · exact .inl z
      · refine .inr ⟨j2, a1, a2, ?_⟩
        rw [upd_n (fun z => w ?_)]
        · exact a3
        · subst z; exact (nI_eq (by omega) (by omega)).mp (a3.symm.trans gj)
  · by_cases w : i = j
    · subst w; exact .inl upd_s
    · rw [upd_n w]
      rcases g.2 i hi with z | ⟨q, a1, a2, a3⟩
      · exact .inl z
      · refine .inr ⟨q, a1, a2, ?_⟩
        rw [upd_n (fun z => w ?_)]
        · exact a3
        · subst z; exact (nI_eq (by omega) (by omega)).mp (a3.symm.trans e)
theorem cg_on {H G : zA} (k : zCk C) (g : zCG C H G) {m : Nat} (hm : m < C.2.1) (e : H m = -9) {j : Nat} (hj : j < C.1) (ej : G j = -9) : zCG C (upd H m (nI j)) (upd G j (nI m)) := by
  have k1 := k.1
  have k2 := k.2.1
  refine ⟨fun q hq => ?_, fun i hi => ?_⟩
  · by_cases w : q = m
    · subst w; exact .inr ⟨j, hj, upd_s, upd_s⟩
    · rw [upd_n w]
      rcases g.1 q hq with z | ⟨j2, a1, a2, a3⟩
      · exact .inl z
      · refine .inr ⟨j2, a1, a2, ?_⟩
        rw [upd_n (fun z => ?_)]
        · exact a3
        · subst z; exact nI_n9 (by omega) (a3.symm.trans ej)
  · by_cases w : i = j
    · subst w; exact .inr ⟨m, hm, upd_s, upd_s⟩
    · rw [upd_n w]
      rcases g.2 i hi with z | ⟨q, a1, a2, a3⟩
      · exact .inl z
      · refine .inr ⟨q, a1, a2, ?_⟩
        rw [upd_n (fun z => ?_)]
        · exact a3
        · subst z; exact nI_n9 (by omega) (a3.symm.trans e)
theorem upd_twice {f : zA} {k : Nat} {v w : Int32} : upd (upd f k v) k w = upd f k w := by
  funext j
  by_cases h : j = k
  · subst h; rw [upd_s, upd_s]
  · rw [upd_n h, upd_n h, upd_n h]
theorem upd_self (f : zA) (k : Nat) : upd f k (f k) = f := by
  funext j
  by_cases h : j = k
  · subst h; rw [upd_s]
  · rw [upd_n h]
theorem b_move (b : zBx r x c C F) (k : zCk C) (g : zCG C B.1 B.2.1) {m : Nat} (hm : m < C.2.1) {h : Int32} (fr : zFree C B.2.1 h ∨ ¬ h = -9 ∧ h = B.1 m) : ∃ G', zev r i_X0_move 0 [some (.ref x), some (.int (nI m)), some (.int h)] [] (F B) = some (none, F (upd B.1 m h, G', B.2.2.1, B.2.2.2)) ∧ zCG C (upd B.1 m h) G' := by
  have k1 := k.1
  have k2 := k.2.1
  have h6 : m < 6 := by omega
  -- what the first half leaves
  have one : ∃ G1, zev r i_X0_move 0 [some (.ref x), some (.int (nI m)), some (.int h)] [] (F B) = zev r i_X0_move 29 [some (.ref x), some (.int (nI m)), some (.int h)] [] (F (B.1, G1, B.2.2.1, B.2.2.2)) ∧ zCG C (upd B.1 m (-9)) G1 ∧ (h = -9 ∨ ∃ j, j < C.1 ∧ h = nI j ∧ G1 j = -9) := by
    obtain ⟨v, o, g0, g1, g2, -, -, r1, r2, -, -, -, w2, -⟩ := b B
    rcases g.1 m hm with e | ⟨j, hj, e, ej⟩
    · refine ⟨B.2.1, ?_, ?_, ?_⟩
      · rw [E_X0_move_0]
        simp only [g0, g1, r1 m h6, Option.bind_some, v.1, if_true, e, cr_hook v, zcI_some, zhk_none]
      · rw [← e, upd_self]; exact g
      · rcases fr with q | ⟨q1, q2⟩
        · exact q
        · exact absurd (q2.trans e) q1
    · refine ⟨upd B.2.1 j (-9), ?_, cg_off k g hm hj e, ?_⟩
      · rw [E_X0_move_0]
        simp only [g0, g1, g2, r1 m h6, Option.bind_some, v.1, if_true, e, cr_hook v, zcI_some, zhk_in hj (show C.1 < 2 ^ 31 by omega), i01, if_false, w2 j _ (show j < 7 by omega)]
      · rcases fr with q | ⟨q1, q2⟩
        · rcases q with q | ⟨j2, a1, a2, a3⟩
          · exact .inl q
          · refine .inr ⟨j2, a1, a2, ?_⟩
            by_cases z : j2 = j
            · subst z; exact upd_s
            · rw [upd_n z]; exact a3
        · exact .inr ⟨j, hj, q2.trans e, upd_s⟩
  obtain ⟨G1, e1, cg, fr1⟩ := one
  obtain ⟨v, o, g0, g1, g2, -, -, -, -, -, -, w1, -⟩ := b (B.1, G1, B.2.2.1, B.2.2.2)
  obtain ⟨v', o', g0', g1', g2', -, -, -, -, -, -, -, w2', -⟩ := b (upd B.1 m h, G1, B.2.2.1, B.2.2.2)
  rcases fr1 with rfl | ⟨j, hj, rfl, ej⟩
  · refine ⟨G1, e1.trans ?_, cg⟩
    rw [E_X0_move_29]
    simp only [g1, w1 m _ h6, Option.bind_some, g0', v'.1, if_true, cr_hook v', zcI_some, zhk_none]
  · refine ⟨upd G1 j (nI m), e1.trans ?_, ?_⟩
    · rw [E_X0_move_29]
      simp only [g1, w1 m _ h6, Option.bind_some, g0', v'.1, if_true, cr_hook v', zcI_some, zhk_in hj (show C.1 < 2 ^ 31 by omega), i01, if_false, g2', w2' j _ (show j < 7 by omega)]
    · have := cg_on k cg hm upd_s hj ej
      rwa [upd_twice] at this
theorem cg_free {H G : zA} (k : zCk C) (g : zCG C H G) {j : Nat} (hj : j < C.1) (h : ∀ m, m < C.2.1 → ¬ H m = nI j) : G j = -9 := by
  rcases g.2 j hj with q | ⟨m, a1, a2, a3⟩
  · exact q
  · exact absurd a3 (h m a1)
theorem b_swap (b : zBx r x c C F) (k : zCk C) (g : zCG C B.1 B.2.1) {m q : Nat} (hm : m < C.2.1) (hq : q < C.2.1) (hn : m ≠ q) : ∃ G', zev r i_X0_swap 0 [some (.ref x), some (.int (nI m)), some (.int (nI q)), none, none] [] (F B) = some (none, F (upd (upd B.1 q (B.1 m)) m (B.1 q), G', B.2.2.1, B.2.2.2)) ∧ zCG C (upd (upd B.1 q (B.1 m)) m (B.1 q)) G' := by
  have k1 := k.1
  have k2 := k.2.1
  obtain ⟨v, o, g0, g1, g2, -, -, r1, -⟩ := b B
  obtain ⟨G1, e1, c1⟩ := b_move b k g hm (h := -9) (.inl (.inl rfl))
  obtain ⟨-, o1, -⟩ := b (upd B.1 m (-9), G1, B.2.2.1, B.2.2.2)
  have f2 : zFree C G1 (B.1 m) := by
    rcases g.1 m hm with z | ⟨j, a1, a2, a3⟩
    · exact .inl z
    · refine .inr ⟨j, a1, a2, cg_free k c1 a1 fun p hp => ?_⟩
      by_cases w : p = m
      · subst w; rw [upd_s]; exact fun z => nI_n9 (by omega) z.symm
      · rw [upd_n w]; exact fun z => w (zCG_inj g k hp hm a1 z a2)
  obtain ⟨G2, e2, c2⟩ := b_move b k (B := (upd B.1 m (-9), G1, B.2.2.1, B.2.2.2)) c1 hq (.inl f2)
  obtain ⟨-, o2, -⟩ := b (upd (upd B.1 m (-9)) q (B.1 m), G2, B.2.2.1, B.2.2.2)
  have f3 : zFree C G2 (B.1 q) := by
    rcases g.1 q hq with z | ⟨j, a1, a2, a3⟩
    · exact .inl z
    · refine .inr ⟨j, a1, a2, cg_free k c2 a1 fun p hp => ?_⟩
      dsimp only
      by_cases w : p = q
      · subst w
        rw [upd_s]
        exact fun z => hn (zCG_inj g k hm hq a1 z a2)
      · rw [upd_n w]
        by_cases w2 : p = m
        · subst w2; rw [upd_s]; exact fun z => nI_n9 (by omega) z.symm
        · rw [upd_n w2]; exact fun z => w (zCG_inj g k hp hq a1 z a2)
  obtain ⟨G3, e3, c3⟩ := b_move b k (B := (upd (upd B.1 m (-9)) q (B.1 m), G2, B.2.2.1, B.2.2.2)) c2 hm (.inl f3)
  have eq : upd (upd (upd B.1 m (-9)) q (B.1 m)) m (B.1 q) = upd (upd B.1 q (B.1 m)) m (B.1 q) := by
    funext p
    by_cases w : p = m
    · subst w; rw [upd_s, upd_s]
    · rw [upd_n w, upd_n w]
      by_cases w2 : p = q
      · subst w2; rw [upd_s, upd_s]
      · rw [upd_n w2, upd_n w2, upd_n w]
  refine ⟨G3, ?_, eq ▸ c3⟩
  rw [E_X0_swap_0]
  simp only [g1, r1 m (show m < 6 by omega), r1 q (show q < 6 by omega), Option.bind_some, o, o1, o2, if_true, e1, zcV_some]
  dsimp only at e2 e3
  rw [e2]
  simp only [zcV_some, o2, if_true]
  rw [e3, eq]
  rfl
/-- all down -/
theorem cg_down {H G : zA} (hH : ∀ m, m < C.2.1 → H m = -9) (hG : ∀ j, j < C.1 → G j = -9) : zCG C H G := ⟨fun m hm => .inl (hH m hm), fun j hj => .inl (hG j hj)⟩
theorem b_down (b : zBx r x c C F) (k : zCk C) : ∃ H' G', zev r i_X0_takeAllDown 0 [some (.ref x)] [] (F B) = some (none, F (H', G', B.2.2.1, B.2.2.2)) ∧ (∀ m, m < C.2.1 → H' m = -9) ∧ zCG C H' G' := by
  have k1 := k.1
  have k2 := k.2.1
  have e1 := z_fill r (n := 6) (fun f => F (f, B.2.1, B.2.2.1, B.2.2.2)) (a := x + 1) (by decide) (fun f => (b (f, B.2.1, B.2.2.1, B.2.2.2)).2.2.2.2.2.2.2.2.2.2.2.2.2.2.2.1) (fun f j y hj => (b (f, B.2.1, B.2.2.1, B.2.2.2)).2.2.2.2.2.2.2.2.2.2.2.1 j y hj) B.1 (-9)
  have e2 := z_fill r (n := 7) (fun f => F ((fun i => if i < 6 then -9 else B.1 i), f, B.2.2.1, B.2.2.2)) (a := x + 2) (by decide) (fun f => (b ((fun i => if i < 6 then -9 else B.1 i), f, B.2.2.1, B.2.2.2)).2.2.2.2.2.2.2.2.2.2.2.2.2.2.2.2) (fun f j y hj => (b ((fun i => if i < 6 then -9 else B.1 i), f, B.2.2.1, B.2.2.2)).2.2.2.2.2.2.2.2.2.2.2.2.1 j y hj) B.2.1 (-9)
  have hH : ∀ m, m < C.2.1 → (fun i => if i < 6 then (-9 : Int32) else B.1 i) m = -9 := fun m hm => if_pos (by omega)
  refine ⟨_, _, ?_, hH, cg_down hH (G := fun i => if i < 7 then (-9 : Int32) else B.2.1 i) fun j hj => if_pos (by omega)⟩
  obtain ⟨-, o, g0, g1, -⟩ := b B
  obtain ⟨-, o', g0', g1', g2', -⟩ := b ((fun i => if i < 6 then -9 else B.1 i), B.2.1, B.2.2.1, B.2.2.2)
  rw [E_X0_takeAllDown_0, g1]
  simp only [Option.bind_some]
  rw [show F B = F (B.1, B.2.1, B.2.2.1, B.2.2.2) from rfl, e1]
  simp only [zcV_some, g2', Option.bind_some]
  rw [e2]
  rfl
theorem b_first (b : zBx r x c C F) (k : zCk C) : ∃ H' G', zev r i_X0_hangByFirstPlan 0 [some (.ref x), none] [] (F B) = some (none, F (H', G', B.2.2.1, B.2.2.2)) ∧ (∀ m, m < C.2.1 → H' m = nI m) ∧ zCG C H' G' := by
  have k1 := k.1
  have k2 := k.2.1
  have k3 := k.2.2.1
  obtain ⟨H0, G0, e0, d0, c0⟩ := b_down b k (B := B)
  obtain ⟨-, o, -⟩ := b B
  rw [E_X0_hangByFirstPlan_0]
  simp only [o, if_true, e0, zcV_some]
  refine zloopS (fun j (s : zA × zA) => (∀ m, m < j → s.1 m = nI m) ∧ (∀ m, j ≤ m → m < C.2.1 → s.1 m = -9) ∧ zCG C s.1 s.2) (fun e => ∃ H' G', e = some (none, F (H', G', B.2.2.1, B.2.2.2)) ∧ (∀ m, m < C.2.1 → H' m = nI m) ∧ zCG C H' G') (fun j (s : zA × zA) => zev r i_X0_hangByFirstPlan 6 [some (.ref x), some (.int (nI j))] [] (F (s.1, s.2, B.2.2.1, B.2.2.2))) C.2.1 (fun j s hj p => .inr ?_) (fun s p => ?_) (H0, G0) ⟨fun m hm => absurd hm (Nat.not_lt_zero m), fun m _ hm => d0 m hm, c0⟩
  · obtain ⟨v, o, g0, g1, -⟩ := b (s.1, s.2, B.2.2.1, B.2.2.2)
    obtain ⟨G', e1, c1⟩ := b_move b k (B := (s.1, s.2, B.2.2.1, B.2.2.2)) p.2.2 hj (h := nI j) (.inl (.inr ⟨j, by omega, rfl, cg_free k p.2.2 (by omega) fun m hm => by
      by_cases w : m < j
      · rw [p.1 m w]
        exact fun z => absurd ((nI_eq (by omega) (by omega)).mp z) (by omega)
      · rw [p.2.1 m (by omega) hm]
        exact fun z => nI_n9 (by omega) z.symm⟩))
    refine ⟨(upd s.1 j (nI j), G'), ?_, fun m hm => ?_, fun m h1 h2 => ?_, c1⟩
    · refine (E_X0_hangByFirstPlan_6 ..).trans ?_
      simp only [g0, v.2.2.1, Option.bind_some, if_pos (nI_lt6 k hj), o, if_true, e1, zcV_some, nI_1]
    · by_cases w : m = j
      · subst w; exact upd_s
      · exact (upd_n w).trans (p.1 m (by omega))
    · exact (upd_n (by omega)).trans (p.2.1 m (by omega) h2)
  · obtain ⟨v, o, g0, g1, -⟩ := b (s.1, s.2, B.2.2.1, B.2.2.2)
    refine ⟨s.1, s.2, ?_, fun m hm => p.1 m hm, p.2.2⟩
    refine (E_X0_hangByFirstPlan_6 ..).trans ?_
    simp only [g0, v.2.2.1, Option.bind_some, if_neg (nI_nlt6 k)]
end MOVE
end
section
/-! DEEDS: the log, the calls -/
section DEEDS
variable {r : zE} {c0 c1 c2 : Nat} {I : Nat → Int32} {J : Nat → Int64} {Q : Nat → Nat → Int32} {N A : zBr} {Ga Va : Nat → Int32} {t : zH} {C : zCs} {c n d : Nat}
theorem nI_0' : (0 : Int32) = nI 0 := rfl
theorem g_room (hd : I 2 = nI d) (h6 : d ≤ 60) {k : Nat} (hk : k ≤ 60) : zev r i_X2_hasRoomFor 0 [some (.ref (r.1 + 19)), some (.int (nI k))] [] (zmk r c0 c1 c2 I J Q N A Ga Va t) = some (some (.int (if 60 < d + k then 0 else 1)), zmk r c0 c1 c2 I J Q N A Ga Va t) := by
  have e : (60 : Int32) - nI d = nI (60 - d) := pk_sub (a := 60) h6
  simp only [E_X2_hasRoomFor_0, mg_19_1, Option.bind_some, hd, e]
  by_cases h : 60 < d + k
  · rw [if_pos (nI_lt (by omega) (by omega)), if_pos h]
  · rw [if_neg (nI_nlt (by omega) (by omega)), if_neg h]
def zWr (f : zA) (N : zBr) (b : Nat) : zA := va_cpy N.2.2.2 (va_cpy N.2.2.1 (va_cpy N.1 f 0 b 6) 0 (b + 6) 6) 0 (b + 12) 6
theorem zWr_h (f : zA) (N : zBr) (b : Nat) {m : Nat} (h : m < 6) : zWr f N b (b + m) = N.1 m := by
  unfold zWr va_cpy
  rw [if_neg (by omega), if_neg (by omega), if_pos (by omega), show 0 + (b + m - b) = m by omega]
theorem zWr_l (f : zA) (N : zBr) (b : Nat) {m : Nat} (h : m < 6) : zWr f N b (b + (6 + m)) = N.2.2.1 m := by
  unfold zWr va_cpy
  rw [if_neg (by omega), if_pos (by omega), show 0 + (b + (6 + m) - (b + 6)) = m by omega]
theorem zWr_t (f : zA) (N : zBr) (b : Nat) {m : Nat} (h : m < 6) : zWr f N b (b + (12 + m)) = N.2.2.2 m := by
  unfold zWr va_cpy
  rw [if_pos (by omega), show 0 + (b + (12 + m) - (b + 12)) = m by omega]
theorem zWr_o (f : zA) (N : zBr) (b : Nat) {i : Nat} (h : i < b ∨ b + 18 ≤ i) : zWr f N b i = f i := by
  unfold zWr va_cpy
  rw [if_neg (by omega), if_neg (by omega), if_neg (by omega)]
theorem g_write {b : Nat} (hb : b + 18 ≤ 1098) : zev r i_X0_writeTo 0 [some (.ref (r.1 + 9)), some (.ref (r.1 + 20)), some (.int (nI b))] [] (zmk r c0 c1 c2 I J Q N A Ga Va t) = some (none, (zmk r c0 c1 c2 I J (va_up Q 9 (zWr (Q 9) N b)) N A Ga Va t)) := by
  have e6 : (6 : Int32) = nI 6 := rfl
  have e1 : nI b + 6 = nI (b + 6) := nI_add b 6
  have e2 : nI b + 12 = nI (b + 12) := nI_add b 12
  have p1 : zcp r (zmk r c0 c1 c2 I J Q N A Ga Va t) (r.1 + 10) 0 (r.1 + 20) (nI b) 6 = some (zmk r c0 c1 c2 I J (va_up Q 9 (va_cpy N.1 (Q 9) 0 b 6)) N A Ga Va t) := by
    rw [nI_0', e6, zcp_of mc_10 mc_20 (by decide) (by omega) (by decide) (by decide), ms_20]
  have p2 : ∀ f : zA, zcp r (zmk r c0 c1 c2 I J (va_up Q 9 f) N A Ga Va t) (r.1 + 12) 0 (r.1 + 20) (nI (b + 6)) 6 = some (zmk r c0 c1 c2 I J (va_up Q 9 (va_cpy N.2.2.1 f 0 (b + 6) 6)) N A Ga Va t) := fun f => by
    rw [nI_0', e6, zcp_of mc_12 mc_20 (by decide) (by omega) (by decide) (by decide), ms_20, va_same, bx_uu]
  have p3 : ∀ f : zA, zcp r (zmk r c0 c1 c2 I J (va_up Q 9 f) N A Ga Va t) (r.1 + 13) 0 (r.1 + 20) (nI (b + 12)) 6 = some (zmk r c0 c1 c2 I J (va_up Q 9 (va_cpy N.2.2.2 f 0 (b + 12) 6)) N A Ga Va t) := fun f => by
    rw [nI_0', e6, zcp_of mc_13 mc_20 (by decide) (by omega) (by decide) (by decide), ms_20, va_same, bx_uu]
  have q2 : ¬ nI 1098 - 18 < nI b := by
    rw [show (18 : Int32) = nI 18 from rfl, pk_sub (by decide)]
    exact nI_nlt (by omega) (by decide)
  simp only [E_X0_writeTo_0, if_neg (nI_pos (show b < 2 ^ 31 by omega)), mn_20, Option.bind_some, nI_of0, if_neg q2, mg_9_1, mg_9_3, mg_9_4, p1, e1, e2, p2, p3]
  rfl
theorem g_add (hd : I 2 = nI d) (h6 : d < 60) : zev r i_X2_add 0 [some (.ref (r.1 + 19)), some (.ref (r.1 + 9))] [] (zmk r c0 c1 c2 I J Q N A Ga Va t) = some (none, (zmk r c0 c1 c2 (va_up I 2 (nI (d + 1))) J (va_up Q 9 (zWr (Q 9) N (18 * (d + 1)))) N A Ga Va t)) := by
  have e1 := g_room (r := r) (c0 := c0) (c1 := c1) (c2 := c2) (J := J) (Q := Q) (N := N) (A := A) (Ga := Ga) (Va := Va) (t := t) hd (by omega) (k := 1) (by decide)
  rw [if_neg (show ¬ 60 < d + 1 by omega)] at e1
  have e2 : nI (d + 1) * 18 = nI (18 * (d + 1)) := by rw [show (18 : Int32) = nI 18 from rfl, pk_mul, Nat.mul_comm]
  simp only [E_X2_add_0, mo_19, if_true, show (1 : Int32) = nI 1 from rfl, e1, zcI_some]
  simp only [show ¬ nI 1 = 0 by decide, if_false, mg_19_1, mg_19_0, Option.bind_some, hd, nI_add, mp_19_1, va_same, mo_9, if_true, e2, g_write (show 18 * (d + 1) + 18 ≤ 1098 by omega), zcV_some]
theorem g_room1 (hd : I 2 = nI d) (h6 : d ≤ 60) : zev r i_X2_hasRoomFor 0 [some (.ref (r.1 + 19)), some (.int 1)] [] (zmk r c0 c1 c2 I J Q N A Ga Va t) = some (some (.int (if d = 60 then 0 else 1)), zmk r c0 c1 c2 I J Q N A Ga Va t) := by
  have := g_room (r := r) (c0 := c0) (c1 := c1) (c2 := c2) (J := J) (Q := Q) (N := N) (A := A) (Ga := Ga) (Va := Va) (t := t) hd h6 (k := 1) (by decide)
  refine this.trans ?_
  by_cases e : d = 60
  · rw [if_pos (by omega), if_pos e]
  · rw [if_neg (by omega), if_neg e]
def ySw (H : zA) (m q : Nat) : zA := upd (upd H q (H m)) m (H q)
end DEEDS
section CALLS3
variable {r : zE} {C : zCs} {d : Nat} {M : Nat → zDk} {K : Nat → Option (Nat × (Nat → zDk))} {W Tx : Nat → Option (List Int32)} {ta : Int32} {tu tl : Int64} {Ga Va : zA} {n : Nat} {h : zH}
theorem pa_add {C : zCs} {d : Nat} {P : zA} {M : Nat → zDk} {N' : zBr} {D' : zDk} (hp : zPa C d P M) (h6 : d < 60) (k2 : C.2.1 ≤ 6) (e : zDe C N' D') (ok : zOk C D') : zPa C (d + 1) (zWr P N' (18 * (d + 1))) (va_up M (d + 1) D') := by
  refine ⟨by omega, fun j hj => ?_⟩
  by_cases z : j = d + 1
  · subst z
    rw [va_same]
    refine ⟨ok, fun m hm => ?_⟩
    obtain ⟨e1, e2, e3⟩ := e m hm
    rw [zWr_h _ _ _ (show m < 6 by omega), zWr_l _ _ _ (show m < 6 by omega), zWr_t _ _ _ (show m < 6 by omega)]
    exact ⟨e1, e2, e3⟩
  · rw [va_ne z]
    obtain ⟨o, b⟩ := hp.2 j (by omega)
    refine ⟨o, fun m hm => ?_⟩
    rw [zWr_o _ _ _ (by omega), zWr_o _ _ _ (by omega), zWr_o _ _ _ (by omega)]
    exact b m hm
theorem iv_deed {r : zE} {C : zCs} {d : Nat} {M : Nat → zDk} {K : Nat → Option (Nat × (Nat → zDk))} {W Tx : Nat → Option (List Int32)} {ta : Int32} {tu tl : Int64} {c : Nat} {I : zA} {J : Nat → Int64} {Q : Nat → zA} {N : zBr} {t : zH} (iv : zI r C d M K W Tx ta tu tl c I J Q N t) (h6 : d < 60) (N' : zBr) (D' : zDk) (g : zCG C N'.1 N'.2.1) (e : zDe C N' D') (l : zL1 C D'.2.1) (x : zT9 C D'.2.2) : zI r C (d + 1) (va_up M (d + 1) D') K W Tx ta tu tl c (va_up I 2 (nI (d + 1))) J (va_up Q 9 (zWr (Q 9) N' (18 * (d + 1)))) (N') t := by
  have k := iv.1
  refine iv_log iv (d + 1) (va_up M (d + 1) D') _ N' (pa_add iv.2.2.2.2.2.1 h6 k.2.1 e ⟨vi_c (fun m hm => ((e m hm).1).symm) (cg_vi k g), l, x⟩) g ?_
  rw [va_same]
  exact e
theorem st_ok (st : zSt r C d M K W Tx ta tu tl Ga Va n h) : zOk C (M d) := by
  obtain ⟨c, c2, I, J, Q, N, A, t, rfl, iv, t1, t2⟩ := st
  exact (iv.2.2.2.2.2.1.2 d (Nat.le_refl _)).1
theorem ck_hang {m j : Nat} (hm : m < C.2.1) (hj : j < C.1) (fr : ∀ q, q < C.2.1 → ¬ (M d).1 q = nI j) (h6 : d < 60) (st : zSt r C d M K W Tx ta tu tl Ga Va n h) : ∃ h', zev r i_X5_hang 0 [some (.ref (r.1 + 0)), some (.int (nI m)), some (.int (nI j))] [] h = some (some (.int (nI j)), h') ∧ zSt r C (d + 1) (va_up M (d + 1) (upd (M d).1 m (nI j), (M d).2.1, (M d).2.2)) K W Tx ta tu tl Ga Va n h' := by
  have ok := st_ok st
  obtain ⟨c, c2, I, J, Q, N, A, t, rfl, iv, t1, t2⟩ := st
  obtain ⟨k, hC, no, de, hd, -⟩ := id iv
  have k1 := k.1
  have k2 := k.2.1
  have g_room1 := @g_room1
  have e : zhk C.2.1 (nI m) = 1 := zhk_in hm (by omega)
  have f : zhk C.1 (nI j) = 1 := zhk_in hj (by omega)
  have fw : N.2.1 j = -9 := cg_free k no.1 hj fun q hq => by rw [de_h de q hq]; exact fr q hq
  have z : ¬ d = 60 := by omega
  obtain ⟨G', e1, c1⟩ := b_move (nBx (c0 := c) (c2 := c2) (I := I) (J := J) (Q := Q) (A := A) (Ga := Ga) (Va := Va) hC) k (B := N) no.1 hm (h := nI j) (.inl (.inr ⟨j, hj, rfl, fw⟩))
  refine ⟨(zmk r c c c2 (va_up I 2 (nI (d + 1))) J (va_up Q 9 (zWr (Q 9) (upd N.1 m (nI j), G', N.2.2.1, N.2.2.2) (18 * (d + 1)))) ((upd N.1 m (nI j), G', N.2.2.1, N.2.2.2)) A Ga Va t), ?_, st_mk (iv_deed iv h6 (upd N.1 m (nI j), G', N.2.2.1, N.2.2.2) (upd (M d).1 m (nI j), (M d).2.1, (M d).2.2) c1 (fun q hq => ⟨?_, (de q hq).2⟩) ok.2.1 ok.2.2) t1 t2⟩
  · simp only [E_X5_hang_0, mo_0, mg_0_0, mg_0_1, mg_0_2, mg_0_3, mg_0_4, mg_0_5, mg_0_6, mg_0_7, mg_0_8, mg_0_9, mg_0_10, mg_0_11, mo_9, mo_19, Option.bind_some, (hC ..).1, if_true, cr_man (hC ..), cr_hook (hC ..), e, f, i01, if_false, b_free (nBx hC) k, nI_clamp (show j < 2 ^ 31 by omega), fw, g_room1 hd (show d ≤ 60 by omega), z, zcI_some, e1, zcV_some, g_add hd h6]
  · show upd N.1 m (nI j) q = upd (M d).1 m (nI j) q
    by_cases y : q = m
    · subst y; rw [upd_s, upd_s]
    · rw [upd_n y, upd_n y, de_h de q hq]
theorem ck_hang_no {m j q : Nat} (hm : m < C.2.1) (hj : j < C.1) (hq : q < C.2.1) (eq : (M d).1 q = nI j) (st : zSt r C d M K W Tx ta tu tl Ga Va n h) : zev r i_X5_hang 0 [some (.ref (r.1 + 0)), some (.int (nI m)), some (.int (nI j))] [] h = some (some (.int (-4)), h) := by
  obtain ⟨c, c2, I, J, Q, N, A, t, rfl, iv, t1, t2⟩ := st
  obtain ⟨k, hC, no, de, hd, -⟩ := id iv
  have k1 := k.1
  have k2 := k.2.1
  have e : zhk C.2.1 (nI m) = 1 := zhk_in hm (by omega)
  have f : zhk C.1 (nI j) = 1 := zhk_in hj (by omega)
  have fw : ¬ N.2.1 j = -9 := by
    rcases no.1.1 q hq with y | ⟨j2, a1, a2, a3⟩
    · exact absurd ((eq.symm.trans (de_h de q hq).symm).trans y) (nI_n9 (by omega))
    · have : j2 = j := (nI_eq (by omega) (by omega)).mp ((a2.symm.trans (de_h de q hq)).trans eq)
      subst this
      rw [a3]
      exact nI_n9 (by omega)
  simp only [E_X5_hang_0, mo_0, mg_0_0, mg_0_1, mg_0_2, mg_0_3, mg_0_4, mg_0_5, mg_0_6, mg_0_7, mg_0_8, mg_0_9, mg_0_10, mg_0_11, mo_9, Option.bind_some, (hC ..).1, if_true, cr_man (hC ..), cr_hook (hC ..), e, f, i01, if_false, b_free (nBx hC) k, nI_clamp (show j < 2 ^ 31 by omega), fw, zcI_some]
theorem ck_down {m : Nat} (hm : m < C.2.1) (hh : ¬ (M d).1 m = -9) (h6 : d < 60) (st : zSt r C d M K W Tx ta tu tl Ga Va n h) : ∃ h', zev r i_X5_down 0 [some (.ref (r.1 + 0)), some (.int (nI m)), none] [] h = some (some (.int ((M d).1 m)), h') ∧ zSt r C (d + 1) (va_up M (d + 1) (upd (M d).1 m (-9), (M d).2.1, (M d).2.2)) K W Tx ta tu tl Ga Va n h' := by
  have ok := st_ok st
  obtain ⟨c, c2, I, J, Q, N, A, t, rfl, iv, t1, t2⟩ := st
  obtain ⟨k, hC, no, de, hd, -⟩ := id iv
  have k2 := k.2.1
  have g_room1 := @g_room1
  have e : zhk C.2.1 (nI m) = 1 := zhk_in hm (by omega)
  have m6 : m < 6 := by omega
  rw [← de_h de m hm] at hh ⊢
  have z : ¬ d = 60 := by omega
  obtain ⟨G', e1, c1⟩ := b_move (nBx (c0 := c) (c2 := c2) (I := I) (J := J) (Q := Q) (A := A) (Ga := Ga) (Va := Va) hC) k (B := N) no.1 hm (h := -9) (.inl (.inl rfl))
  refine ⟨(zmk r c c c2 (va_up I 2 (nI (d + 1))) J (va_up Q 9 (zWr (Q 9) (upd N.1 m (-9), G', N.2.2.1, N.2.2.2) (18 * (d + 1)))) ((upd N.1 m (-9), G', N.2.2.1, N.2.2.2)) A Ga Va t), ?_, st_mk (iv_deed iv h6 (upd N.1 m (-9), G', N.2.2.1, N.2.2.2) (upd (M d).1 m (-9), (M d).2.1, (M d).2.2) c1 (fun q hq => ⟨?_, (de q hq).2⟩) ok.2.1 ok.2.2) t1 t2⟩
  · simp only [E_X5_down_0, mo_0, mg_0_0, mg_0_1, mg_0_2, mg_0_3, mg_0_4, mg_0_5, mg_0_6, mg_0_7, mg_0_8, mg_0_9, mg_0_10, mg_0_11, mo_9, mg_9_1, ma_10 m6, mo_19, Option.bind_some, (hC ..).1, if_true, cr_man (hC ..), e, i01, if_false, b_hangs (nBx hC) m6, hh, g_room1 hd (show d ≤ 60 by omega), z, zcI_some, e1, zcV_some, g_add hd h6]
  · show upd N.1 m (-9) q = upd (M d).1 m (-9) q
    by_cases y : q = m
    · subst y; rw [upd_s, upd_s]
    · rw [upd_n y, upd_n y, de_h de q hq]
theorem ck_down_no {m : Nat} (hm : m < C.2.1) (hh : (M d).1 m = -9) (st : zSt r C d M K W Tx ta tu tl Ga Va n h) : zev r i_X5_down 0 [some (.ref (r.1 + 0)), some (.int (nI m)), none] [] h = some (some (.int (-4)), h) := by
  obtain ⟨c, c2, I, J, Q, N, A, t, rfl, iv, t1, t2⟩ := st
  obtain ⟨k, hC, no, de, hd, -⟩ := id iv
  have k2 := k.2.1
  have e : zhk C.2.1 (nI m) = 1 := zhk_in hm (by omega)
  have m6 : m < 6 := by omega
  rw [← de_h de m hm] at hh
  simp only [E_X5_down_0, mo_0, mg_0_0, mg_0_1, mg_0_2, mg_0_3, mg_0_4, mg_0_5, mg_0_6, mg_0_7, mg_0_8, mg_0_9, mg_0_10, mg_0_11, mo_9, Option.bind_some, (hC ..).1, if_true, cr_man (hC ..), e, i01, if_false, b_hangs (nBx hC) m6, hh, zcI_some]
theorem ck_change_same {m : Nat} (hm : m < C.2.1) (st : zSt r C d M K W Tx ta tu tl Ga Va n h) : zev r i_X5_change 0 [some (.ref (r.1 + 0)), some (.int (nI m)), some (.int (nI m))] [] h = some (some (.int (-1)), h) := by
  obtain ⟨c, c2, I, J, Q, N, A, t, rfl, iv, t1, t2⟩ := st
  obtain ⟨k, hC, no, de, hd, -⟩ := id iv
  have k2 := k.2.1
  have e : zhk C.2.1 (nI m) = 1 := zhk_in hm (by omega)
  simp only [E_X5_change_0, mo_0, mg_0_0, mg_0_1, mg_0_2, mg_0_3, mg_0_4, mg_0_5, mg_0_6, mg_0_7, mg_0_8, mg_0_9, mg_0_10, mg_0_11, Option.bind_some, (hC ..).1, if_true, cr_man (hC ..), e, i01, if_false, zcI_some]
theorem ck_change_no {m q : Nat} (hm : m < C.2.1) (hq : q < C.2.1) (u : m ≠ q) (h1 : (M d).1 m = -9) (h2 : (M d).1 q = -9) (st : zSt r C d M K W Tx ta tu tl Ga Va n h) : zev r i_X5_change 0 [some (.ref (r.1 + 0)), some (.int (nI m)), some (.int (nI q))] [] h = some (some (.int (-4)), h) := by
  obtain ⟨c, c2, I, J, Q, N, A, t, rfl, iv, t1, t2⟩ := st
  obtain ⟨k, hC, no, de, hd, -⟩ := id iv
  have k2 := k.2.1
  have e : zhk C.2.1 (nI m) = 1 := zhk_in hm (by omega)
  have f : zhk C.2.1 (nI q) = 1 := zhk_in hq (by omega)
  have m6 : m < 6 := by omega
  have q6 : q < 6 := by omega
  have u1 : ¬ nI m = nI q := fun z => u ((nI_eq (by omega) (by omega)).mp z)
  rw [← de_h de m hm] at h1
  rw [← de_h de q hq] at h2
  simp only [E_X5_change_0, mo_0, mg_0_0, mg_0_1, mg_0_2, mg_0_3, mg_0_4, mg_0_5, mg_0_6, mg_0_7, mg_0_8, mg_0_9, mg_0_10, mg_0_11, mo_9, Option.bind_some, (hC ..).1, if_true, cr_man (hC ..), e, f, i01, if_false, u1, b_hangs (nBx hC) m6, b_hangs (nBx hC) q6, h1, h2, zcI_some]
theorem ck_change {m q : Nat} (hm : m < C.2.1) (hq : q < C.2.1) (u : m ≠ q) (hh : ¬ ((M d).1 m = -9 ∧ (M d).1 q = -9)) (h6 : d < 60) (st : zSt r C d M K W Tx ta tu tl Ga Va n h) : ∃ h', zev r i_X5_change 0 [some (.ref (r.1 + 0)), some (.int (nI m)), some (.int (nI q))] [] h = some (some (.int 1), h') ∧ zSt r C (d + 1) (va_up M (d + 1) (ySw (M d).1 m q, (M d).2.1, (M d).2.2)) K W Tx ta tu tl Ga Va n h' := by
  have ok := st_ok st
  obtain ⟨c, c2, I, J, Q, N, A, t, rfl, iv, t1, t2⟩ := st
  obtain ⟨k, hC, no, de, hd, -⟩ := id iv
  have k2 := k.2.1
  have g_room1 := @g_room1
  have e : zhk C.2.1 (nI m) = 1 := zhk_in hm (by omega)
  have f : zhk C.2.1 (nI q) = 1 := zhk_in hq (by omega)
  have m6 : m < 6 := by omega
  have q6 : q < 6 := by omega
  have u1 : ¬ nI m = nI q := fun z => u ((nI_eq (by omega) (by omega)).mp z)
  rw [← de_h de m hm, ← de_h de q hq] at hh
  have z : ¬ d = 60 := by omega
  have g1 : zev r i_X5_change 0 [some (.ref (r.1 + 0)), some (.int (nI m)), some (.int (nI q))] [] (zmk r c c c2 I J Q N A Ga Va t) = zev r i_X5_change 54 [some (.ref (r.1 + 0)), some (.int (nI m)), some (.int (nI q))] [] (zmk r c c c2 I J Q N A Ga Va t) := by
    by_cases w1 : N.1 m = -9
    · have w2 : ¬ N.1 q = -9 := fun z => hh ⟨w1, z⟩
      simp only [E_X5_change_0, mo_0, mg_0_0, mg_0_1, mg_0_2, mg_0_3, mg_0_4, mg_0_5, mg_0_6, mg_0_7, mg_0_8, mg_0_9, mg_0_10, mg_0_11, mo_9, Option.bind_some, (hC ..).1, if_true, cr_man (hC ..), e, f, i01, if_false, u1, b_hangs (nBx hC) m6, b_hangs (nBx hC) q6, w1, w2, zcI_some]
    · simp only [E_X5_change_0, mo_0, mg_0_0, mg_0_1, mg_0_2, mg_0_3, mg_0_4, mg_0_5, mg_0_6, mg_0_7, mg_0_8, mg_0_9, mg_0_10, mg_0_11, mo_9, Option.bind_some, (hC ..).1, if_true, cr_man (hC ..), e, f, i01, if_false, u1, b_hangs (nBx hC) m6, w1, zcI_some]
  obtain ⟨G', e1, c1⟩ := b_swap (nBx (c0 := c) (c2 := c2) (I := I) (J := J) (Q := Q) (A := A) (Ga := Ga) (Va := Va) hC) k (B := N) no.1 hm hq u
  refine ⟨(zmk r c c c2 (va_up I 2 (nI (d + 1))) J (va_up Q 9 (zWr (Q 9) (upd (upd N.1 q (N.1 m)) m (N.1 q), G', N.2.2.1, N.2.2.2) (18 * (d + 1)))) ((upd (upd N.1 q (N.1 m)) m (N.1 q), G', N.2.2.1, N.2.2.2)) A Ga Va t), ?_, st_mk (iv_deed iv h6 (upd (upd N.1 q (N.1 m)) m (N.1 q), G', N.2.2.1, N.2.2.2) (ySw (M d).1 m q, (M d).2.1, (M d).2.2) c1 (fun p hp => ⟨?_, (de p hp).2⟩) ok.2.1 ok.2.2) t1 t2⟩
  · rw [g1]
    simp only [E_X5_change_54, mo_0, mg_0_0, mg_0_1, mg_0_2, mg_0_3, mg_0_4, mg_0_5, mg_0_6, mg_0_7, mg_0_8, mg_0_9, mg_0_10, mg_0_11, mo_9, mo_19, Option.bind_some, if_true, g_room1 hd (show d ≤ 60 by omega), z, i01, if_false, zcI_some, e1, zcV_some, g_add hd h6]
  · show upd (upd N.1 q (N.1 m)) m (N.1 q) p = upd (upd (M d).1 q ((M d).1 m)) m ((M d).1 q) p
    rw [← de_h de m hm, ← de_h de q hq]
    by_cases y : p = m
    · subst y; rw [upd_s, upd_s]
    · rw [upd_n y, upd_n y]
      by_cases y2 : p = q
      · subst y2; rw [upd_s, upd_s]
      · rw [upd_n y2, upd_n y2, de_h de p hp]
theorem ck_line {m x : Nat} (hm : m < C.2.1) (x1 : 1 ≤ x) (x9 : x < 10) (hl : ¬ (M d).2.1 m = nI x) (h6 : d < 60) (st : zSt r C d M K W Tx ta tu tl Ga Va n h) : ∃ h', zev r i_X5_line 0 [some (.ref (r.1 + 0)), some (.int (nI m)), some (.int (nI x)), none] [] h = some (some (.int ((M d).2.1 m)), h') ∧ zSt r C (d + 1) (va_up M (d + 1) ((M d).1, upd (M d).2.1 m (nI x), (M d).2.2)) K W Tx ta tu tl Ga Va n h' := by
  have ok := st_ok st
  obtain ⟨c, c2, I, J, Q, N, A, t, rfl, iv, t1, t2⟩ := st
  obtain ⟨k, hC, no, de, hd, -⟩ := id iv
  have k2 := k.2.1
  have g_room1 := @g_room1
  have e : zhk C.2.1 (nI m) = 1 := zhk_in hm (by omega)
  have m6 : m < 6 := by omega
  have l1 : ¬ nI x < 1 := nI_nlt (b := 1) x1 (by omega)
  have l2 : ¬ (9 : Int32) < nI x := nI_nlt (a := 9) (by omega) (by decide)
  rw [← de_l de m hm] at hl ⊢
  have z : ¬ d = 60 := by omega
  refine ⟨(zmk r c c c2 (va_up I 2 (nI (d + 1))) J (va_up Q 9 (zWr (Q 9) (N.1, N.2.1, upd N.2.2.1 m (nI x), N.2.2.2) (18 * (d + 1)))) ((N.1, N.2.1, upd N.2.2.1 m (nI x), N.2.2.2)) A Ga Va t), ?_, st_mk (iv_deed iv h6 (N.1, N.2.1, upd N.2.2.1 m (nI x), N.2.2.2) ((M d).1, upd (M d).2.1 m (nI x), (M d).2.2) no.1 (fun q hq => ⟨(de q hq).1, ?_, (de q hq).2.2⟩) (fun q hq => ?_) ok.2.2) t1 t2⟩
  · simp only [E_X5_line_0, mo_0, mg_0_0, mg_0_1, mg_0_2, mg_0_3, mg_0_4, mg_0_5, mg_0_6, mg_0_7, mg_0_8, mg_0_9, mg_0_10, mg_0_11, mo_9, mg_9_3, ma_12 m6, mw_12 m6, mo_19, Option.bind_some, (hC ..).1, if_true, cr_man (hC ..), e, i01, if_false, l1, l2, hl, g_room1 hd (show d ≤ 60 by omega), z, zcI_some, zcV_some, g_add hd h6]
  · show upd N.2.2.1 m (nI x) q = upd (M d).2.1 m (nI x) q
    by_cases y : q = m
    · subst y; rw [upd_s, upd_s]
    · rw [upd_n y, upd_n y, de_l de q hq]
  · show ∃ a, 1 ≤ a ∧ a < 10 ∧ upd (M d).2.1 m (nI x) q = nI a
    by_cases y : q = m
    · subst y; rw [upd_s]; exact ⟨x, x1, x9, rfl⟩
    · rw [upd_n y]; exact ok.2.1 q hq
theorem ck_line_no {m x : Nat} (hm : m < C.2.1) (x1 : 1 ≤ x) (x9 : x < 10) (hl : (M d).2.1 m = nI x) (st : zSt r C d M K W Tx ta tu tl Ga Va n h) : zev r i_X5_line 0 [some (.ref (r.1 + 0)), some (.int (nI m)), some (.int (nI x)), none] [] h = some (some (.int (-4)), h) := by
  obtain ⟨c, c2, I, J, Q, N, A, t, rfl, iv, t1, t2⟩ := st
  obtain ⟨k, hC, no, de, hd, -⟩ := id iv
  have k2 := k.2.1
  have e : zhk C.2.1 (nI m) = 1 := zhk_in hm (by omega)
  have m6 : m < 6 := by omega
  have l1 : ¬ nI x < 1 := nI_nlt (b := 1) x1 (by omega)
  have l2 : ¬ (9 : Int32) < nI x := nI_nlt (a := 9) (by omega) (by decide)
  rw [← de_l de m hm] at hl
  simp only [E_X5_line_0, mo_0, mg_0_0, mg_0_1, mg_0_2, mg_0_3, mg_0_4, mg_0_5, mg_0_6, mg_0_7, mg_0_8, mg_0_9, mg_0_10, mg_0_11, mg_9_3, ma_12 m6, Option.bind_some, (hC ..).1, if_true, cr_man (hC ..), e, i01, if_false, l1, l2, hl, zcI_some]
end CALLS3
end
section
/-! THE END: the pure machine answers 1 -/
theorem z_pure (r : zE) (b L : Nat) (xs : Nat → Int32) (hE : zEnv r b L xs) (hL : L ≤ 260) : ∃ g : zH, zev r 0 0 [some (.ref b), none, none, none, none, none, none, none, none, none, none, none, none, none, none, none, none, none, none, none, none, none, none, none, none, none, none, none, none] [] [] = some (some (.int 1), g) ∧ g.length ≤ 600000 ∧ zhs g ≤ 7302250 := by
  sorry
/-- YOUR PART: from the entry, for every script of at most 260 ints, the law comes to its end with true ('hflags': the launch's flags, for a law that throws: no stack traces) -/
theorem whole_start {p : Program} {e : Env} {s : State} {m : MethodId} {below : List Frame} {meth : Method} {c : Code} (l : Launch) (hflags : l.flags = flags0) {b L : Nat} {xs : Nat → Int32} (hL : L ≤ 260) (C0 : lw_At p s m meth c b L xs) : W p l e room_1 s m #[Value.ref b] below meth c s.heap [] 0 0 (lw_Z below #[Value.ref b] s) (entryFrame m ([Value.ref b] : List Value).toArray 29) := by
  obtain ⟨r, hE, k⟩ := z_law l C0
  obtain ⟨g, h1, h2, h3⟩ := z_pure r b L xs hE hL
  exact k g h1 h2 h3
-- ===== YOUR PART ENDS =====
set_option maxHeartbeats 4000000 in
theorem lw_walk (l : Launch) (hflags : l.flags = flags0) (b : Addr) (xs : List Int32) : MetFree l x (headSpec (Jvm.Cond.code x code maxLocals ret :: tables_1) room_1) (lw_P b xs) (fun _ _ _ _ _ => True) lw_Q := by
  refine MetFree.of_bodyS (code := code) (maxLocals := maxLocals) (ret := ret) (by decide) ?_ ?_
  · intro args s m h hn
    obtain ⟨meth, c, h1, h2, h3, h4, h5, h6, -, -⟩ := Cond.code_spec hn (atoms_spec (ws := Jvm.Cond.code x code maxLocals ret :: tables_1) h _ List.mem_cons_self)
    exact ⟨meth, c, h1, h2, h3, h4, h5, h6⟩
  · intro p e s m args below meth c s₁ B hml0 hP _
    obtain ⟨rfl, hx, hbd, hgv⟩ := hP
    obtain ⟨scr, harrAt, hlist, hof, hsmall⟩ := hx
    obtain ⟨hcb, hkn, -, -⟩ := State.arrayAt?_spec harrAt
    have hown : s.vm.findClass R_law = some m.cls := findClass_of_methodNamed B.named
    have hts0 : ∀ c ∈ (Jvm.Cond.code x code maxLocals ret :: tables_1), c.before #[Value.ref b] s = true := atoms_spec (ws := Jvm.Cond.code x code maxLocals ret :: tables_1) B.pre
    have hts : ∀ w ∈ lw_tbl, w.before #[Value.ref b] s = true := k2_hts_sels lw_privs (fun w hw => hts0 w (List.mem_cons_of_mem _ hw)) lw_privs_ok
    have hml : c.maxLocals = 29 := B.maxLocals_eq (hts0 _ List.mem_cons_self)
    have X₀ : Stand p l e room_1 s m #[Value.ref b] below meth c s₁ [] 0 0 := Stand.of_body B
    have hh0 : s₁.heap = s.heap := by rw [B.state]; rfl
    have hsz : scr.slots.size = xs.length := by rw [← Array.length_toList, hlist, List.length_map]
    have hval : ∀ j : Nat, j < xs.length → scr.slots[j]? = some (.int (xs.getD j 0)) := fun j hj => by
      rw [← Array.getElem?_toList, hlist]
      simp [hj]
    have hbl : b < s.heap.size := (Array.getElem?_eq_some_iff.mp hcb).1
    have hX : va_X b xs.length (fun j => xs.getD j 0) s s.heap := ⟨scr, hcb, hof, hkn, hsz, hval⟩
    have K : W p l e room_1 s m #[Value.ref b] below meth c s₁.heap [] 0 0 (lw_Z below #[Value.ref b] s) (entryFrame m ([Value.ref b] : List Value).toArray 29) := by
      rw [hh0]
      exact whole_start l hflags hbd ⟨B.exec, B.bytes, B.returns, hml, hown, hts, hX, hbl, B.notSynchronized, hgv⟩
    obtain ⟨t, a1, o, b1, b2, b3⟩ := K s₁ rfl X₀
    exact ⟨t, o, a1, b1, b2, b3⟩
theorem lw_pre_spec {args : Array Value} {s : State} (h : (Jvm.Cond.and given_1 narrow_1).before args s = true) (hr : rest_1_c.before args s = true) : ∃ (b : Addr) (xs : List Int32), lw_P b xs args s := by
  have hs := flat_of_before _ h
  have hq := flat_of_before _ hr
  have hc : (Cond.count 1).before args s = true := hs _ (by decide +kernel)
  have harr : (Cond.arrayOf (.arg 0) .int).before args s = true := hs _ (by decide +kernel)
  have hle : (Cond.le (.length (.arg 0)) (.int 260)).before args s = true := hs _ (by decide +kernel)
  have hlen : (Cond.isInt (.length (.arg 0))).before args s = true := hq _ (by decide +kernel)
  have hall : (Cond.all (.arg 0) (.isInt (.elem (.arg 0) (.index 0)))).before args s = true := hq _ (by decide +kernel)
  obtain ⟨b, xs, hb, hx⟩ := State.ints_of_pre rfl harr hlen hall
  have hsm : xs.length < 2 ^ 31 := hx.choose_spec.2.2.2
  have hev : (Term.length (.arg 0)).eval args s none [] s = some (.int xs.length.toInt32) := hx.length_eval hb
  have hv := Cond.le_ints hev (show (Term.int 260).eval args s none [] s = some (.int 260) from rfl)
  have hd : xs.length.toInt32 ≤ 260 := by
    simpa [Cond.before, Cond.holds, hv] using hle
  have hN : xs.length ≤ 260 := (Int32.ofNat_le_ofNat hsm (by decide)).mp (show Int32.ofNat xs.length ≤ Int32.ofNat 260 from hd)
  exact ⟨b, xs, Cond.one_arg hc (show args[0]? = some (.ref b) from hb), hx, hN, h⟩
theorem lw_comes (l : Launch) (hflags : l.flags = flags0) : Comes l x (Jvm.Cond.code x code maxLocals ret :: tables_1) room_1 (fun tb e args s => Calls_1 tb e args s ∧ rest_1 tb e args s ∧ Pre_1 tb e args s)
    (fun _ _ args s o t => lw_Q args s o t) := by
  intro p e ha hc hk s m args below hf hfit hheap happ hpre
  obtain ⟨b, xs, hP⟩ := lw_pre_spec hpre.2.2 hpre.2.1
  obtain ⟨k, o, h1, h2, h3, hQ⟩ := lw_walk l hflags b xs p e ha hc hk s m args below hf ((Spec.applies_iff_loose hf).mp happ).1 hP trivial
  exact ⟨k, o, h1, h2, h3, hQ⟩
theorem lw_frame {s t : State} {o : Outcome} {args : Array Value} (h : Framed s o t [] 600000 7302250) :
    Framed s o t (fieldLocs frame_1_writes args s ++ arrayLocs frame_1_arrays args s ++ staticLocs frame_1_statics s) 600000 7302250 := h
theorem lw_limb (L : Cond) (hL : ∀ (args : Array Value) (s t : State), L.after args s (.returned (some (.int 1))) t = true) :
    ArmFor flags0 classFile x code maxLocals ret World_1 tables_1 room_1 Calls_1 rest_1 Pre_1
      (fun tb e a s o t => postC L tb e a s o t ∧ Framed s o t (fieldLocs frame_1_writes a s ++ arrayLocs frame_1_arrays a s ++ staticLocs frame_1_statics s) 600000 7302250) := by
  intro l hflags _ _ p e ha hc hk s m args below hf hfit hheap happ hpre
  obtain ⟨k, o, h1, h2, h3, rfl, hF⟩ := lw_comes l hflags p e ha hc hk s m args below hf hfit hheap happ hpre
  exact ⟨k, _, h1, h2, h3, hL args s _, lw_frame hF⟩
theorem i_vc : Claimed_1_1 ∧ Claimed_1_2 := ⟨lw_limb limb_1_1 (fun args s t => by simp [limb_1_1, Cond.after, Cond.holds, Cond.value]), lw_limb limb_1_2 (fun args s t => Cond.after_iff.mpr (by
  first | (rw [show limb_1_2 = Cond.eq .result (.int 1) from rfl, Cond.eq_ints (x := 1) (y := 1) rfl rfl]; simp; done) | (simp [limb_1_2, Cond.value, Term.eval]; done)))⟩
end
