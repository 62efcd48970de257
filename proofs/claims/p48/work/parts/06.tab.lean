/-! what the tables say of every method, and the check of the code against them -/
def zcls : List vw_C := [(RX0, TX0, 5), (RX1, TX1, 7), (RX2, TX2, 2), (RX3, TX3, 3), (RX4, TX4, 2), (RX5, TX5, 12)]
def zty (ci : Nat) : Nat → FieldType := match ci with
  | 0 => tyX0
  | 1 => tyX1
  | 2 => tyX2
  | 3 => tyX3
  | 4 => tyX4
  | _ => tyX5
def zstat : List (String × String × String) := [("HammockDeck", "KIND_BULK", "[I"), ("HammockDeck", "KIND_LETTERS", "[C"), ("HammockDeck", "PLACE_LETTERS", "[C"), ("HammockDeck", "PLACE_WAKES", "[I")]
def zYs : List MethodName := [yL_law, yX0_init, yX0_begin, yX0_copyFrom, yX0_manDetail, yX0_hookDetail, yX0_tiredTogether, yX0_writeTo, yX0_readFrom, yX0_isFree, yX0_hangs, yX0_move, yX0_swap, yX0_takeAllDown, yX0_hangBy, yX0_hangByFirstPlan, yX0_hangByNextPlan, yX0_moveOn, yX0_messmatePairs, yX0_isIn, yX0_howManyIn, yX0_bitOfWhoIsInAt, yX0_neighbourBits, yX0_wakings, yX0_wakingsFrom, yX0_allWakings, yX0_mostWakings, yX0_tire, yX0_inTheWayOf, yX0_firstToGetUp, yX0_hasBulkierNeighbour, yX1_init, yX1_hasHook, yX1_hasMan, yX1_addHook, yX1_addMan, yX1_mostMen, yX1_planCount, yX1_isOf, yX1_bitsOf, yX1_bulk, yX1_placeWakes, yX2_init, yX2_isMissing, yX2_hasRoomFor, yX2_begin, yX2_add, yX2_discard, yX2_copyFrom, yX2_goBackTo, yX3_init, yX3_read, yX3_skipBlanks, yX3_readHooks, yX3_readMan, yX3_letterIn, yX3_readFigure, yX4_init, yX4_isMissing, yX4_has, yX4_get, yX4_set, yX4_renew, yX4_discard, yX4_digestedOnto, yX5_init, yX5_row, yX5_lay, yX5_at, yX5_tear, yX5_text, yX5_put, yX5_fault, yX5_deck, yX5_man, yX5_hook, yX5_hang, yX5_down, yX5_change, yX5_line, yX5_night, yX5_undo, yX5_keep, yX5_on, yX5_neighbours, yX5_woken, yX5_all, yX5_worst, yX5_by, yX5_best, yX5_fair, yX5_mixed, yX5_judge, yX5_gain, yX5_calm, yX5_mates, yX5_cut, yX5_up, yX5_fits, yX5_mid, yX5_lots, yX5_asked, yX5_upper, yX5_lower, yX5_count, yX5_digest, yX5_rowAt, yX5_textAt, yX5_isWhen, yX5_isKeptPlace, yX5_found, yX5_tell, yX5_tellMean, yX5_commonDivisor, yX5_renewed, yX5_sleptThrough, yX5_wakingsWithout, yX5_beginPlans, yX5_leastPlan, yX5_weighed, yX5_firstGladPair, yX5_wouldBothGladlyChange, yX5_countFitting, yX5_fitsBook, yX5_fitsBookBy, yX5_counted, yX5_howManyThere, yX5_howManyKept, yJ6_bitCount_0f7a4, yJ7_fill_53178, yL_cell, yL_low, yL_letter, yL_placeLetter, yL_deck, yL_bits, yL_whoAt, yL_stir, yL_told]
def zY (mi : Nat) : MethodName := zYs.getD mi yL_law
def zBs : List ByteArray := [cL_law, cX0_init, cX0_begin, cX0_copyFrom, cX0_manDetail, cX0_hookDetail, cX0_tiredTogether, cX0_writeTo, cX0_readFrom, cX0_isFree, cX0_hangs, cX0_move, cX0_swap, cX0_takeAllDown, cX0_hangBy, cX0_hangByFirstPlan, cX0_hangByNextPlan, cX0_moveOn, cX0_messmatePairs, cX0_isIn, cX0_howManyIn, cX0_bitOfWhoIsInAt, cX0_neighbourBits, cX0_wakings, cX0_wakingsFrom, cX0_allWakings, cX0_mostWakings, cX0_tire, cX0_inTheWayOf, cX0_firstToGetUp, cX0_hasBulkierNeighbour, cX1_init, cX1_hasHook, cX1_hasMan, cX1_addHook, cX1_addMan, cX1_mostMen, cX1_planCount, cX1_isOf, cX1_bitsOf, cX1_bulk, cX1_placeWakes, cX2_init, cX2_isMissing, cX2_hasRoomFor, cX2_begin, cX2_add, cX2_discard, cX2_copyFrom, cX2_goBackTo, cX3_init, cX3_read, cX3_skipBlanks, cX3_readHooks, cX3_readMan, cX3_letterIn, cX3_readFigure, cX4_init, cX4_isMissing, cX4_has, cX4_get, cX4_set, cX4_renew, cX4_discard, cX4_digestedOnto, cX5_init, cX5_row, cX5_lay, cX5_at, cX5_tear, cX5_text, cX5_put, cX5_fault, cX5_deck, cX5_man, cX5_hook, cX5_hang, cX5_down, cX5_change, cX5_line, cX5_night, cX5_undo, cX5_keep, cX5_on, cX5_neighbours, cX5_woken, cX5_all, cX5_worst, cX5_by, cX5_best, cX5_fair, cX5_mixed, cX5_judge, cX5_gain, cX5_calm, cX5_mates, cX5_cut, cX5_up, cX5_fits, cX5_mid, cX5_lots, cX5_asked, cX5_upper, cX5_lower, cX5_count, cX5_digest, cX5_rowAt, cX5_textAt, cX5_isWhen, cX5_isKeptPlace, cX5_found, cX5_tell, cX5_tellMean, cX5_commonDivisor, cX5_renewed, cX5_sleptThrough, cX5_wakingsWithout, cX5_beginPlans, cX5_leastPlan, cX5_weighed, cX5_firstGladPair, cX5_wouldBothGladlyChange, cX5_countFitting, cX5_fitsBook, cX5_fitsBookBy, cX5_counted, cX5_howManyThere, cX5_howManyKept, cJ6_bitCount_0f7a4, cJ7_fill_53178, cL_cell, cL_low, cL_letter, cL_placeLetter, cL_deck, cL_bits, cL_whoAt, cL_stir, cL_told]
def zB (mi : Nat) : ByteArray := zBs.getD mi cL_law
def zMls : List Nat := [29, 2, 2, 2, 3, 3, 3, 3, 4, 2, 2, 3, 5, 1, 4, 2, 3, 3, 5, 3, 4, 4, 3, 5, 6, 4, 4, 5, 6, 3, 5, 1, 2, 2, 2, 5, 1, 3, 3, 4, 2, 2, 2, 1, 2, 2, 2, 1, 2, 3, 3, 3, 1, 2, 5, 3, 4, 1, 1, 2, 2, 3, 3, 1, 6, 2, 3, 5, 4, 3, 3, 6, 3, 5, 3, 3, 3, 3, 3, 4, 2, 3, 2, 2, 3, 3, 2, 6, 8, 3, 3, 2, 4, 4, 3, 3, 7, 8, 4, 5, 7, 1, 1, 1, 2, 5, 2, 2, 1, 2, 2, 2, 7, 11, 5, 3, 4, 1, 8, 3, 4, 4, 6, 3, 5, 2, 3, 3, 1, 4, 2, 2, 1, 1, 8, 3, 4, 10, 3]
def zMl (mi : Nat) : Nat := zMls.getD mi 0
def zRts : List (Option FieldType) := [(some .boolean), none, none, none, (some .int), (some .int), (some .int), none, none, (some .boolean), (some .boolean), none, none, none, (some .boolean), none, none, (some .boolean), (some .int), (some .boolean), (some .int), (some .int), (some .int), (some .int), (some .int), (some .int), (some .int), (some .int), (some .int), (some .int), (some .boolean), none, (some .boolean), (some .boolean), none, none, (some .int), (some .int), (some .boolean), (some .int), (some .int), (some .int), none, (some .boolean), (some .boolean), none, none, none, none, none, none, (some .int), none, (some .boolean), (some .boolean), (some .int), (some .int), none, (some .boolean), (some .boolean), (some .int), none, none, none, (some .long), none, (some .int), (some .int), (some .int), (some .int), (some .int), (some .int), (some .int), (some .int), (some .int), (some .int), (some .int), (some .int), (some .int), (some .int), (some .int), (some .int), (some .int), (some .int), (some .int), (some .int), (some .int), (some .int), (some .int), (some .int), (some .int), (some .int), (some .int), (some .int), (some .int), (some .int), (some .int), (some .int), (some .int), (some .int), (some .int), (some .int), (some .long), (some .long), (some .int), (some .long), (some (.object "HammockDeck$Row")), (some (.object "HammockDeck$Row")), (some .boolean), (some .boolean), (some .int), none, none, (some .long), (some .int), (some .int), (some .int), none, (some .int), (some .int), (some .int), (some .boolean), none, (some .boolean), (some .boolean), (some .int), (some .int), (some .int), (some .int), none, (some .int), (some .int), (some .int), (some .int), (some .boolean), (some .int), (some .int), (some .boolean), (some .int)]
def zRt (mi : Nat) : (Option FieldType) := zRts.getD mi none
def zFrs : List Nat := [8, 4, 3, 1, 0, 0, 0, 1, 2, 1, 0, 1, 2, 1, 2, 2, 3, 2, 1, 0, 1, 1, 2, 2, 1, 3, 3, 3, 3, 4, 3, 1, 0, 0, 0, 2, 1, 0, 0, 1, 0, 0, 1, 0, 0, 2, 2, 0, 1, 3, 1, 4, 2, 3, 3, 2, 2, 1, 0, 0, 1, 1, 1, 0, 2, 5, 3, 2, 2, 1, 3, 2, 5, 5, 1, 1, 3, 3, 3, 3, 5, 4, 2, 4, 3, 3, 4, 3, 4, 6, 6, 6, 4, 4, 5, 4, 4, 5, 7, 4, 5, 0, 0, 0, 3, 3, 0, 0, 0, 0, 0, 0, 2, 1, 2, 4, 3, 3, 5, 4, 4, 3, 6, 5, 4, 2, 1, 1, 0, 0, 0, 0, 0, 0, 6, 0, 0, 4, 2]
def zFr (mi : Nat) : Nat := zFrs.getD mi 0
def zLos : List Nat := [189, 85, 64, 26, 0, 0, 0, 26, 43, 21, 0, 21, 43, 23, 43, 43, 65, 43, 21, 0, 22, 22, 45, 48, 23, 72, 72, 72, 67, 91, 67, 20, 0, 0, 0, 43, 23, 0, 0, 22, 0, 0, 20, 0, 0, 48, 48, 0, 26, 66, 20, 91, 42, 64, 67, 42, 42, 20, 0, 0, 21, 21, 23, 0, 42, 106, 69, 43, 42, 21, 69, 43, 113, 113, 22, 22, 69, 69, 69, 69, 118, 88, 47, 88, 67, 72, 95, 72, 95, 144, 144, 144, 95, 95, 118, 87, 95, 113, 166, 95, 118, 0, 0, 0, 66, 67, 0, 0, 0, 0, 0, 0, 53, 23, 45, 96, 72, 64, 117, 95, 95, 72, 141, 119, 95, 45, 20, 20, 0, 0, 0, 0, 0, 0, 137, 0, 0, 92, 44]
def zLo (mi : Nat) : Nat := zLos.getD mi 0
def zmem (i : Nat) (w : Cond) : Bool := decide (lw_tbl[i]? = some w)
theorem zmem_in {i : Nat} {w : Cond} (h : zmem i w = true) : w ∈ lw_tbl := List.mem_of_getElem? (of_decide_eq_true h)
def zlen (ins : Instr) (n : Nat) : Bool := match ins with
  | .bipush _ | .ldc _ | .iload _ | .lload _ | .aload _ | .istore _ | .lstore _ | .astore _ | .newarray _ => n == 2
  | .sipush _ | .ldc_w _ | .ldc2_w _ | .iinc _ _ | .goto _ | .ifCond _ _ | .if_icmp _ _ | .ifnull _ | .ifnonnull _ | .getfield _ | .putfield _ | .getstatic _ | .new _ | .anewarray _ | .invokevirtual _ | .invokespecial _ | .invokestatic _ => n == 3
  | .tableswitch _ _ _ _ | .lookupswitch _ _ => true
  | _ => n == 1
/-- numbers -/
def zokA (mi pc n : Nat) (ins : Instr) (w : zL) : Bool := zlen ins n && match ins with
  | .bipush i => decide ((Int8.ofInt i).toInt32 = Int32.ofInt i)
  | .sipush i => decide ((Int16.ofInt i).toInt32 = Int32.ofInt i)
  | .goto off => decide ((pc : Int) + off = (w.1 : Int))
  | .ifCond _ off => decide ((pc : Int) + off = (w.1 : Int))
  | .if_icmp _ off => decide ((pc : Int) + off = (w.1 : Int))
  | .ifnull off => decide ((pc : Int) + off = (w.1 : Int))
  | .ifnonnull off => decide ((pc : Int) + off = (w.1 : Int))
  | .tableswitch d lo hi os => decide (0 ≤ (pc : Int) + d ∧ hi + 1 = lo + os.toList.length ∧ -1000 ≤ lo ∧ lo ≤ 1000 ∧ os.toList.length ≤ 1000) && os.toList.all fun x => decide (0 ≤ (pc : Int) + x)
  | .lookupswitch d ps => decide (0 ≤ (pc : Int) + d) && ps.toList.all (fun x => decide (0 ≤ (pc : Int) + x.2 ∧ -1000 ≤ x.1 ∧ x.1 ≤ 1000)) && (ps.toList.zip (ps.toList.drop 1)).all (fun (a, next) => a.1 < next.1)
  | .ireturn => if w.1 = 0 then decide (zRt mi = some .int) else decide (zRt mi = some .boolean)
  | .lreturn => decide (zRt mi = some .long)
  | .areturn => decide (zRt mi = some (.object RX4))
  | .return_ => decide (zRt mi = none)
  | _ => true
def zcal (mi : Nat) (w : zL) (i j : Nat) : Bool := zmem i (.code (zY w.1) (zB w.1) (zMl w.1) (zRt w.1)) && zmem j (.initialized (zY w.1).cls) && decide (zMl w.1 = w.2.2.2.2.1 ∧ ((zY w.1).cls ≠ "java/lang/invoke/MethodHandle" ∧ (zY w.1).cls ≠ "java/lang/invoke/VarHandle" ∧ (parseMethodDescriptor (zY w.1).desc).map (fun d => d.parameters.length) = some w.2.2.1) ∧ zFr w.1 + 1 ≤ zFr mi ∧ 8 + (zMl w.1 + 11) + zLo w.1 ≤ zLo mi)
/-- links -/
def zokB (mi : Nat) (ins : Instr) (w : zL) (u : List Nat) : Bool := match ins with
  | .ldc ix => zmem (u.getD 0 0) (.constant (zY mi).cls ix (Int32.ofInt w.2.2.2.2.2))
  | .ldc_w ix => zmem (u.getD 0 0) (.constant (zY mi).cls ix (Int32.ofInt w.2.2.2.2.2))
  | .ldc2_w ix => zmem (u.getD 0 0) (.constantLong (zY mi).cls ix (Int64.ofInt w.2.2.2.2.2))
  | .getfield ix => match zcls[w.1]? with
    | some q => decide (w.2.1 < q.2.2) && (zmem (u.getD 0 0) (.fieldLink (zY mi).cls ix q.1 (q.2.1 w.2.1).2.1 (q.2.1 w.2.1).2.2.1) || zmem (u.getD 0 0) (.fieldLinkNest (zY mi).cls ix q.1 (q.2.1 w.2.1).2.1 (q.2.1 w.2.1).2.2.1 "HammockDeck"))
    | none => false
  | .putfield ix => match zcls[w.1]? with
    | some q => decide (w.2.1 < q.2.2) && (zmem (u.getD 0 0) (.fieldLink (zY mi).cls ix q.1 (q.2.1 w.2.1).2.1 (q.2.1 w.2.1).2.2.1) && (decide ((q.2.1 w.2.1).2.2.2 = false) || decide (q.1 = (zY mi).cls ∧ (zY mi).name = "<init>"))
        || zmem (u.getD 0 0) (.fieldLinkNest (zY mi).cls ix q.1 (q.2.1 w.2.1).2.1 (q.2.1 w.2.1).2.2.1 "HammockDeck") && decide ((q.2.1 w.2.1).2.2.2 = false))
      && (match w.2.2.1 with | 0 => decide (zty w.1 w.2.1 = .int) | 1 => decide (zty w.1 w.2.1 = .long) | _ => (match zty w.1 w.2.1 with | .object _ => true | .array _ => true | _ => false))
    | none => false
  | .getstatic ix => match zstat[w.1]? with
    | some q => zmem (u.getD 0 0) (.fieldLink (zY mi).cls ix q.1 q.2.1 q.2.2) || zmem (u.getD 0 0) (.fieldLinkNest (zY mi).cls ix q.1 q.2.1 q.2.2 "HammockDeck")
    | none => false
  | .new ix => match zcls[w.1]? with
    | some q => zmem (u.getD 0 0) (.classLink (zY mi).cls ix q.1)
    | none => false
  | .anewarray ix => match zcls[w.1]? with
    | some q => zmem (u.getD 0 0) (.classLink (zY mi).cls ix q.1) && zmem (u.getD 1 0) (.arrayOver (.object q.1)) && decide (w.1 = 4 ∨ w.1 = 2)
    | none => false
  | .invokevirtual ix => zmem (u.getD 0 0) (.methodLink (zY mi).cls ix (zY w.1)) && zcal mi w (u.getD 1 0) (u.getD 2 0) && zmem (u.getD 3 0) (.instanceMethod (zY w.1)) && (match zcls[w.2.2.2.2.2.toNat]? with
    | some q => zmem (u.getD 4 0) (.selects q.1 (zY w.1) (zY w.1))
    | none => false)
  | .invokespecial ix => match w.2.1 with
    | 4 => zmem (u.getD 0 0) (.methodLink (zY mi).cls ix Lib.objectInit) && zmem (u.getD 1 0) (.instanceMethod Lib.objectInit) && zmem (u.getD 2 0) (.code Lib.objectInit ⟨#[0xb1]⟩ 1 none) && decide (1 ≤ zFr mi ∧ 20 ≤ zLo mi)
    | _ => (zmem (u.getD 0 0) (.methodLink (zY mi).cls ix (zY w.1)) || zmem (u.getD 0 0) (.methodLinkNest (zY mi).cls ix (zY w.1) "HammockDeck")) && zcal mi w (u.getD 1 0) (u.getD 2 0) && zmem (u.getD 3 0) (.instanceMethod (zY w.1)) && decide ((zY w.1).name = "<init>" ∧ zRt w.1 = none)
  | .invokestatic ix => match w.2.1 with
    | 3 => zmem (u.getD 0 0) (.methodLink (zY mi).cls ix arraycopyName) && zmem (u.getD 1 0) (.native arraycopyName) && zmem (u.getD 2 0) (.static arraycopyName) && zmem (u.getD 3 0) (.initialized "java/lang/System") && decide (1 ≤ zFr mi ∧ 26 ≤ zLo mi)
    | 5 => zmem (u.getD 0 0) (.methodLink (zY mi).cls ix Lib.Math.abs.name) && zmem (u.getD 1 0) (.static Lib.Math.abs.name) && zmem (u.getD 2 0) (.initialized "java/lang/Math") && zmem (u.getD 3 0) (.code Lib.Math.abs.name Lib.Math.abs.code 1 (some .int)) && decide (1 ≤ zFr mi ∧ 23 ≤ zLo mi)
    | 6 => zmem (u.getD 0 0) (.methodLink (zY mi).cls ix Lib.Math.max.name) && zmem (u.getD 1 0) (.static Lib.Math.max.name) && zmem (u.getD 2 0) (.initialized "java/lang/Math") && zmem (u.getD 3 0) (.code Lib.Math.max.name Lib.Math.max.code 2 (some .int)) && decide (1 ≤ zFr mi ∧ 23 ≤ zLo mi)
    | 7 => zmem (u.getD 0 0) (.methodLink (zY mi).cls ix Lib.Math.min.name) && zmem (u.getD 1 0) (.static Lib.Math.min.name) && zmem (u.getD 2 0) (.initialized "java/lang/Math") && zmem (u.getD 3 0) (.code Lib.Math.min.name Lib.Math.min.code 2 (some .int)) && decide (1 ≤ zFr mi ∧ 23 ≤ zLo mi)
    | 8 => zmem (u.getD 0 0) (.methodLink (zY mi).cls ix Lib.MathLoose.abs_long.x) && zmem (u.getD 1 0) (.static Lib.MathLoose.abs_long.x) && zmem (u.getD 2 0) (.initialized "java/lang/Math") && zmem (u.getD 3 0) (.code Lib.MathLoose.abs_long.x Lib.MathLoose.abs_long.code 2 (some .long)) && decide (1 ≤ zFr mi ∧ 23 ≤ zLo mi)
    | 9 => zmem (u.getD 0 0) (.methodLink (zY mi).cls ix Lib.MathLoose.max_long.x) && zmem (u.getD 1 0) (.static Lib.MathLoose.max_long.x) && zmem (u.getD 2 0) (.initialized "java/lang/Math") && zmem (u.getD 3 0) (.code Lib.MathLoose.max_long.x Lib.MathLoose.max_long.code 4 (some .long)) && decide (1 ≤ zFr mi ∧ 23 ≤ zLo mi)
    | _ => zmem (u.getD 0 0) (.methodLink (zY mi).cls ix (zY w.1)) && zcal mi w (u.getD 1 0) (u.getD 2 0) && zmem (u.getD 3 0) (.static (zY w.1))
  | _ => true
def zchk (mi : Nat) : Bool → List zI → List (List Nat) → Bool
  | _, [], _ => true
  | b, e :: l, u => decide (decode (zB mi) e.1 = .ok (e.2.2.1, e.2.1)) && zokA mi e.1 e.2.1 e.2.2.1 e.2.2.2 && zokB mi e.2.2.1 e.2.2.2 (u.headD []) && zchk mi b l u.tail
theorem zchk_at {mi : Nat} : ∀ {l : List zI} {u : List (List Nat)}, zchk mi true l u = true → ∀ {pc : Nat} {q : Nat × Instr × zL}, zlk l pc = some q → decode (zB mi) pc = .ok (q.2.1, q.1) ∧ zokA mi pc q.1 q.2.1 q.2.2 = true ∧ ∃ u, zokB mi q.2.1 q.2.2 u = true
  | [], _, _, _, _, hq => by cases hq
  | e :: l, u, h, pc, q, hq => by
    simp only [zchk, Bool.and_eq_true] at h
    obtain ⟨⟨⟨h1, h2⟩, h3⟩, h4⟩ := h
    unfold zlk at hq
    split at hq
    · rename_i hp
      cases hq
      rw [← hp]
      exact ⟨of_decide_eq_true h1, h2, _, h3⟩
    · exact zchk_at h4 hq
def zu_0_0 : List (List Nat) := [[40], [], [42, 44, 30, 43], [], [], [], [], [], [], [], [], [], [], []]
def zu_0_1 : List (List Nat) := [[730, 732, 29, 731]]
def zu_0_2 : List (List Nat) := [[], [], [], [], [], [], [], [], [706, 709, 30, 707, 708], [], [], [], [451, 454, 30, 452, 453], [], [], [], [], [], [], [], [], [], [], [], [], [722, 724, 29, 723], [], [], [], [], []]
def zu_0_3 : List (List Nat) := [[754, 756, 29, 755]]
def zu_0_4 : List (List Nat) := [[], [], [], [], [], [], [], [], [], [], [], [], [], [], [], [351, 354, 30, 352, 353], [], [], [], [661, 664, 30, 662, 663], [], [], [], [], [], [], [], [], [], [], [], [], [], [], [765, 767, 29, 766], [], [], [], [], [], [], [], [], [], [], [], [], []]
def zu_0_5 : List (List Nat) := [[], [], [], [673, 676, 30, 674, 675], [], [], [706, 709, 30, 707, 708], [], [], [], [], [673, 676, 30, 674, 675], [], [], [], [], [], [], [], [], [], [], [], [], [], [], [], [], [], [], [], [], [], [], [472, 475, 30, 473, 474], [], [], [], [], [485, 488, 30, 486, 487], [], [], [], [], [765, 767, 29, 766], [], [], []]
def zu_0_6 : List (List Nat) := [[], [], [], [765, 767, 29, 766], [], [], [], [], [], [], [], [], [], [], [], [], [], [], [], [], [], [], [], [], [], [], [], [], [], [], [], [], [], [], [], [], [], [], [], [], [], [], [751, 753, 29, 752], [], [], [], [], []]
def zu_0_7 : List (List Nat) := [[], [], [], [], [], [], [], [], [], [], [], [], [], [], [], [], [765, 767, 29, 766], [], [], [], [], [], [], [765, 767, 29, 766], [], [], [], [], [], [], [], [], [], [], [], [], [], [], [], [], [], [], [], [], [], [], [], []]
def zu_0_8 : List (List Nat) := [[], [], [], [472, 475, 30, 473, 474], [], [], [], [], [], [], [], [], [], [], [], [], [507, 510, 30, 508, 509], [], [], [661, 664, 30, 662, 663], [], [], [], [], [], [], [], [], [], [], [], [], [], [], [], [], [], [], [], [], [], [], [], [], [], [], [], []]
def zu_0_9 : List (List Nat) := [[], [360, 363, 30, 361, 362], [], [], [], [], [485, 488, 30, 486, 487], [], [], [], [], [], [], [439, 442, 30, 440, 441], [], [], [], [], [], [485, 488, 30, 486, 487], [], [], [], [], [], [], [], [599, 602, 30, 600, 601], [], [], [661, 664, 30, 662, 663], [], [], [], [490, 493, 30, 491, 492], [], [], [], [], [], [], [], [], [], [], [], [], []]
def zu_0_10 : List (List Nat) := [[], [765, 767, 29, 766], [], [], [], [], [390, 393, 30, 391, 392], [], [], [], [], [490, 493, 30, 491, 492], [], [], [], [], [439, 442, 30, 440, 441], [], [], [], [], [], [], [765, 767, 29, 766], [], [], [], [], [], [], [], [], [], [], [490, 493, 30, 491, 492], [], [], [], [661, 664, 30, 662, 663], [], [], [], [], [], [], [502, 505, 30, 503, 504], [], []]
def zu_0_11 : List (List Nat) := [[661, 664, 30, 662, 663], [], [], [], [], [], [], [], [], [], [], [], [], [], [], [], [], [], [], [], [], [485, 488, 30, 486, 487], [], [], [], [], [], [], [578, 581, 30, 579, 580], [], [], [661, 664, 30, 662, 663], [], [], [], [], [], [], [], [], [], [], [], [], [], [], [], []]
def zu_0_12 : List (List Nat) := [[], [], [574, 577, 30, 575, 576], [], [], [], [], [], [], [], [], [], [], [], [], [], [], [], [], [], [], [], [], [], [], [], [], [], [], [], [574, 577, 30, 575, 576], [], [], [], [], [485, 488, 30, 486, 487], [], [], [], [], [485, 488, 30, 486, 487], [], [], [], [], [765, 767, 29, 766], [], []]
def zu_0_13 : List (List Nat) := [[], [], [765, 767, 29, 766], [], [], [], [], [], [], [], [], [765, 767, 29, 766], [], [], [], [], [765, 767, 29, 766], [], [], [], [], [], [], [765, 767, 29, 766], [], [], [], [], [], [], [], [765, 767, 29, 766], [], [], [], [], [], [], [], [], [], [], [], [], [], [574, 577, 30, 575, 576], [], []]
def zu_0_14 : List (List Nat) := [[], [], [], [], [], [], [], [], [], [], [], [382, 385, 30, 383, 384], [], [], [], [], [490, 493, 30, 491, 492], [], [], [], [], [], [], [], [], [], [], [], [], [], [], [], [485, 488, 30, 486, 487], [], [], [], [], [], [485, 488, 30, 486, 487], [], [], [], [], [], [], [], [], []]
def zu_0_15 : List (List Nat) := [[], [439, 442, 30, 440, 441], [], [], [], [], [], [], [], [], [], [], [], [], [], [], [], [], [], [], [], [], [], [], [], [], [], [], [], [], [], [], [], [673, 676, 30, 674, 675], [], [], [], [394, 397, 30, 395, 396], [], [], [], [], [], [], [], [], [673, 676, 30, 674, 675], []]
def zu_0_16 : List (List Nat) := [[], [], [], [], [], [439, 442, 30, 440, 441], [], [], [], [706, 709, 30, 707, 708], [], [], [], [], [], [], [], [], [], [], [], [726, 728, 29, 727], [], [], [], [], [519, 522, 30, 520, 521], [], [], [], [], [557, 560, 30, 558, 559], [], [], [], [561, 564, 30, 562, 563], [], [], [], [], [], [], [565, 568, 30, 566, 567], [], [], [], [], []]
def zu_0_17 : List (List Nat) := [[565, 568, 30, 566, 567], [], [], [], [], [], [], [], [], [], [], [565, 568, 30, 566, 567], [], [], [], [565, 568, 30, 566, 567], [], [], [], [], [], [], [], [], [490, 493, 30, 491, 492], [], [], [], [], [490, 493, 30, 491, 492], [], [], [490, 493, 30, 491, 492], [], [], [], [], [], [], [], [], [519, 522, 30, 520, 521], [], [], [], [], [519, 522, 30, 520, 521], []]
def zu_0_18 : List (List Nat) := [[], [], [], [], [], [], [], [], [557, 560, 30, 558, 559], [], [], [], [], [], [565, 568, 30, 566, 567], [], [], [], [], [], [], [636, 639, 30, 637, 638], [], [], [], [665, 668, 30, 666, 667], [], [], [], [669, 672, 30, 670, 671], [], [], [], [], [669, 672, 30, 670, 671], [], [], [], [], [], [], [590, 593, 30, 591, 592], [], [], [661, 664, 30, 662, 663], [], [], []]
def zu_0_19 : List (List Nat) := [[], [], [], [], [], [], [], [], [], [], [], [], [], [], [], [], [], [], [], [603, 606, 30, 604, 605], [], [], [], [490, 493, 30, 491, 492], [], [], [], [], [661, 664, 30, 662, 663], [], [], [], [], [], [], [], [], [], [], [], [], [], [258, 261, 30, 259, 260], [], [], [], [661, 664, 30, 662, 663], []]
def zu_0_20 : List (List Nat) := [[], [], [], [], [], [], [], [], [], [], [], [], [], [], [], [], [], [], [], [765, 767, 29, 766], [], [], [], [], [], [], [], [765, 767, 29, 766], [], [], [], [], [], [], [], [], [], [], [], [], [], [], [], [], [258, 261, 30, 259, 260], [], [], []]
def zu_0_21 : List (List Nat) := [[], [], [], [], [], [], [], [], [], [206, 209, 30, 207, 208], [], [], [], [], [], [], [233, 236, 30, 234, 235], [], [], [], [], [], [], [], [], [565, 568, 30, 566, 567], [233, 236, 30, 234, 235], [], [], [], [], [], [], [233, 236, 30, 234, 235], [], [], [], [], [], [], [], [], [565, 568, 30, 566, 567], [233, 236, 30, 234, 235], [], [], [], []]
def zu_0_22 : List (List Nat) := [[620, 623, 30, 621, 622], [], [], [], [665, 668, 30, 666, 667], [], [], [], [], [669, 672, 30, 670, 671], [], [], [], [], [], [], [661, 664, 30, 662, 663], [], [], [665, 668, 30, 666, 667], [], [], [], [], [], [], [], [258, 261, 30, 259, 260], [], [], [], [661, 664, 30, 662, 663], [], [], [], [], [], [], [], [], [], [], [], [], [206, 209, 30, 207, 208], [], [], []]
def zu_0_23 : List (List Nat) := [[], [], [], [233, 236, 30, 234, 235], [], [], [], [], [], [], [], [], [565, 568, 30, 566, 567], [233, 236, 30, 234, 235], [], [], [], [], [620, 623, 30, 621, 622], [], [], [], [665, 668, 30, 666, 667], [], [], [], [], [], [], [], [], [], [772], [], [], [653, 656, 30, 654, 655], [], [], [], [673, 676, 30, 674, 675], [], [], [], [], [], [], [439, 442, 30, 440, 441], []]
def zu_0_24 : List (List Nat) := [[], [], [], [673, 676, 30, 674, 675], [], [], [], [], [673, 676, 30, 674, 675], [], [], [], [], [], [], [], [], [673, 676, 30, 674, 675], [], [], [], [451, 454, 30, 452, 453], [], [], [], [], [464, 467, 30, 465, 466], [], [], [], [673, 676, 30, 674, 675], [], [], [], [], [464, 467, 30, 465, 466], [], [], [], [], [439, 442, 30, 440, 441], [], [], [], [], [673, 676, 30, 674, 675], [], []]
def zu_0_25 : List (List Nat) := [[], [], [], [], [], [], [], [], [262, 265, 30, 263, 264], [], [], [], [], [], [], [], [], [270, 273, 30, 271, 272], [], [], [], [706, 709, 30, 707, 708], [], [], [], [], [], [], []]
def zu_0 : List (List Nat) := zu_0_0 ++ (zu_0_1 ++ (zu_0_2 ++ (zu_0_3 ++ (zu_0_4 ++ (zu_0_5 ++ (zu_0_6 ++ (zu_0_7 ++ (zu_0_8 ++ (zu_0_9 ++ (zu_0_10 ++ (zu_0_11 ++ (zu_0_12 ++ (zu_0_13 ++ (zu_0_14 ++ (zu_0_15 ++ (zu_0_16 ++ (zu_0_17 ++ (zu_0_18 ++ (zu_0_19 ++ (zu_0_20 ++ (zu_0_21 ++ (zu_0_22 ++ (zu_0_23 ++ (zu_0_24 ++ (zu_0_25)))))))))))))))))))))))))
def zu_1 : List (List Nat) := [[], [95, 46, 47], [], [], [], [123], [], [], [], [125], [], [], [], [126], [], [], [], [128], [], [], [96, 99, 32, 97, 98], []]
def zu_2 : List (List Nat) := [[], [], [122], [], [69], [], [], [126], [], [], [100, 102, 101, 33], [], [128], [], [103, 105, 34, 104], [], [106, 109, 32, 107, 108], []]
def zu_3 : List (List Nat) := [[], [], [122], [122], [], [123], [], [], [123], [], [], [100, 102, 101, 33], [], [125], [], [], [125], [], [], [100, 102, 101, 33], [], [126], [], [], [126], [], [], [100, 102, 101, 33], [], [128], [], [], [128], [], [], [100, 102, 101, 33], []]
def zu_4 : List (List Nat) := [[], [], [], [122], [67], [], [], [], [], [126], [], [], [], [], [122], [71], [], [], [], [], [122], [73], [], [], [], [], [123], [], [], [], [], [128], [], [], []]
def zu_5 : List (List Nat) := [[], [], [], [122], [65], [], [], [], [], [125], [], [], []]
def zu_6 : List (List Nat) := [[], [], [], [], [], [], [122], [62], [], [], [], [128], [], [], [], [], [], [], [], []]
def zu_7 : List (List Nat) := [[], [], [], [], [], [], [], [], [], [], [123], [], [], [], [], [100, 102, 101, 33], [], [126], [], [], [], [], [], [], [100, 102, 101, 33], [], [128], [], [], [], [], [], [], [100, 102, 101, 33], []]
def zu_8 : List (List Nat) := [[], [], [], [], [], [], [], [], [], [], [110, 113, 32, 112, 0], [], [], [], [], [122], [62], [], [], [], [], [], [], [], [], [114, 117, 32, 115, 116], [], [], [], [], [], [], [], [126], [], [], [100, 102, 101, 33], [], [], [], [], [], [128], [], [], [100, 102, 101, 33], []]
def zu_9 : List (List Nat) := [[], [122], [], [118, 121, 31, 119, 120], [], [], [125], [], [], [], [], [], [], [], []]
def zu_10 : List (List Nat) := [[], [123], [], [], [], [], [], [], [], []]
def zu_11 : List (List Nat) := [[], [122], [], [123], [], [], [118, 121, 31, 119, 120], [], [], [125], [], [123], [], [], [], [], [], [123], [], [], [], [], [122], [], [118, 121, 31, 119, 120], [], [], [125], [], [], [], []]
def zu_12 : List (List Nat) := [[], [123], [], [], [], [], [123], [], [], [], [], [], [], [114, 117, 32, 115, 116], [], [], [], [114, 117, 32, 115, 116], [], [], [], [114, 117, 32, 115, 116], []]
def zu_13 : List (List Nat) := [[], [123], [], [103, 105, 34, 104], [], [125], [], [103, 105, 34, 104], []]
def zu_14 : List (List Nat) := [[], [110, 113, 32, 112, 0], [], [], [], [], [122], [62], [], [], [], [573, 248, 36, 246, 247], [], [], [], [553, 556, 32, 554, 555], [], [], [], [], [], [], [114, 117, 32, 115, 116], [], [], [], []]
def zu_15 : List (List Nat) := [[], [110, 113, 32, 112, 0], [], [], [], [], [122], [62], [], [], [], [], [114, 117, 32, 115, 116], [], [], []]
def zu_16 : List (List Nat) := [[], [122], [62], [], [], [], [], [], [], [], [549, 552, 32, 551, 19], [], [], [], [], [], [], [], [], [], [122], [62], [], [], [], [549, 552, 32, 551, 19], [], [], [], []]
def zu_17 : List (List Nat) := [[], [], [123], [], [], [437, 230, 37, 231], [], [], [], [], [], [122], [58], [], [], [], [553, 556, 32, 554, 555], [], [], [], [], [114, 117, 32, 115, 116], [], [], [], [], [], [], [], [114, 117, 32, 115, 116], [], []]
def zu_18 : List (List Nat) := [[], [], [], [], [], [], [], [], [122], [58], [], [], [125], [], [], [], [], [125], [], [], [], [], [], [], [122], [], [427, 367, 31, 365, 366], [], [], [122], [], [427, 367, 31, 365, 366], [], [], [122], [73], [], [], [], [122], [73], [], [], [], [], [], [], [], []]
def zu_19 : List (List Nat) := [[], [123], [], [], [], [], [], [], [], [122], [71], [], [], [], [], [], [], [], [], [], []]
def zu_20 : List (List Nat) := [[], [], [], [], [], [], [122], [62], [], [], [], [], [413, 416, 32, 414, 415], [], [], [], [], [], []]
def zu_21 : List (List Nat) := [[], [122], [], [118, 121, 31, 119, 120], [], [], [], [], [125], [], [], [], [], [122], [], [427, 367, 31, 365, 366], [], [], [], [], [413, 416, 32, 414, 415], [], [], [], [], [], [], []]
def zu_22 : List (List Nat) := [[], [], [480, 371, 32, 369, 370], [], [], [], [], [], [123], [], [], [], [], [], [481, 484, 32, 483, 14], [], [], [123], [], [], [], [], [], [481, 484, 32, 483, 14], [], []]
def zu_23 : List (List Nat) := [[], [], [], [413, 416, 32, 414, 415], [], [], [], [], [123], [], [], [], [], [122], [], [417, 420, 31, 418, 419], [], [], [], [], [], [], [423, 426, 32, 425, 12], [], [], [], [], [], [], [], [423, 426, 32, 425, 12], [], [], [], [122], [67], [], [], [], [], [], [], [], [437, 230, 37, 231], [], [], [], [], [437, 230, 37, 231], []]
def zu_24 : List (List Nat) := [[], [122], [], [118, 121, 31, 119, 120], [], [], [], [], [125], [], [], [], [], [122], [], [427, 367, 31, 365, 366], [], [], [], [], [413, 416, 32, 414, 415], [], [], [], [], [122], [67], [], [], [], [], [], [122], [67], [], [], [], [], [], [], [], [], [], [126], [], [], [], [126], [], [], [], [428, 429, 37, 430], [], [122], [], [431, 434, 31, 432, 433], [], [], [122], [], [431, 434, 31, 432, 433], [], [], [], [], [], [], [], []]
def zu_25 : List (List Nat) := [[], [], [], [], [], [], [122], [62], [], [], [], [], [], [409, 412, 32, 410, 411], [], [], [], [], [], []]
def zu_26 : List (List Nat) := [[], [], [], [], [], [], [122], [62], [], [], [], [], [], [409, 412, 32, 410, 411], [437, 230, 37, 231], [], [], [], [], []]
def zu_27 : List (List Nat) := [[], [], [], [], [], [], [122], [62], [], [], [128], [], [], [], [], [128], [], [], [], [], [], [], [409, 412, 32, 410, 411], [], [438, 227, 37, 228], [], [], [], [128], [], [], [], [], [], [], [], [], [], []]
def zu_28 : List (List Nat) := [[], [], [], [615, 479, 32, 477, 478], [], [], [], [], [], [], [], [122], [62], [], [], [], [], [], [], [], [], [], [], [122], [], [431, 434, 31, 432, 433], [], [], [], [], [], [], []]
def zu_29 : List (List Nat) := [[], [], [], [], [122], [62], [], [], [], [], [413, 416, 32, 414, 415], [], [], [], [], [611, 614, 32, 613, 22], [], [], [], [], [], [], []]
def zu_30 : List (List Nat) := [[], [], [], [615, 479, 32, 477, 478], [], [], [], [], [], [122], [62], [], [], [], [], [], [], [], [], [122], [], [431, 434, 31, 432, 433], [], [122], [], [431, 434, 31, 432, 433], [], [], [], [], [], [], []]
def zu_31 : List (List Nat) := [[], [55, 46, 47], [], [], [56], [], [], [60], [], [], [], [64], [], [], [], [66], [], [], [], [68], [], [], [], [70], [], [], [], [72], []]
def zu_32 : List (List Nat) := [[], [], [], [], [56], [], [], [], [], []]
def zu_33 : List (List Nat) := [[], [], [], [], [60], [], [], [], [], []]
def zu_34 : List (List Nat) := [[], [56], [], [], [], [], [64], [], [56], [], [], [], [], [56], [], [], [56], []]
def zu_35 : List (List Nat) := [[], [60], [], [337, 321, 31, 319, 320], [], [], [], [66], [], [60], [], [], [], [68], [], [60], [], [], [], [70], [], [60], [], [], [], [72], [], [60], [], [], [], [], [60], [], [], [60], []]
def zu_36 : List (List Nat) := [[], [], [56], [322, 227, 37, 228], []]
def zu_37 : List (List Nat) := [[], [], [], [], [], [], [60], [], [], [], [56], [], [], [], [], [], [], [], []]
def zu_38 : List (List Nat) := [[], [66], [], [], [], [], [], [], [], [], [66], [], [], [], [], [], [], [], []]
def zu_39 : List (List Nat) := [[], [], [], [], [], [], [60], [], [], [], [], [689, 692, 31, 690, 691], [], [], [], [], [], [], [], [], [], [], []]
def zu_40 : List (List Nat) := [[435], [], [66], [], [], [], []]
def zu_41 : List (List Nat) := [[421], [], [64], [], [], [], []]
def zu_42 : List (List Nat) := [[], [145, 46, 47], [], [], [], [146], [], [], [147], []]
def zu_43 : List (List Nat) := [[], [147], [], [], [], [], [], []]
def zu_44 : List (List Nat) := [[], [], [], [147], [], [], [], [], [], []]
def zu_45 : List (List Nat) := [[], [], [147], [], [], [146], [], [343, 346, 32, 344, 345], []]
def zu_46 : List (List Nat) := [[], [], [381, 375, 35, 373, 374], [], [], [], [], [147], [], [], [147], [], [], [146], [], [147], [], [], [343, 346, 32, 344, 345], []]
def zu_47 : List (List Nat) := [[], [], [147], []]
def zu_48 : List (List Nat) := [[], [], [147], [147], [], [146], [], [], [146], [], [], [146], [], [463, 102, 101, 33], []]
def zu_49 : List (List Nat) := [[], [], [], [], [147], [], [], [], [], [147], [], [], [146], [], [], [], [447, 450, 32, 448, 449], []]
def zu_50 : List (List Nat) := [[], [283, 46, 47], [], [], [286], [], [], [284], [], [], [285], []]
def zu_51 : List (List Nat) := [[], [298, 301, 38, 300, 6], [], [303, 306, 38, 305, 7], [], [], [286], [], [], [298, 301, 38, 300, 6], [], [285], [318, 321, 31, 319, 320], [], [], [], [], [], [], [], [286], [], [284], [162], [], [], [323, 326, 38, 325, 9], [], [], [286], [], [], [298, 301, 38, 300, 6], [], [], [], [285], [61], [], [], [286], [], [284], [162], [], [], [], [], [286], []]
def zu_52 : List (List Nat) := [[], [286], [], [284], [162], [], [], [284], [], [286], [302, 248, 36, 246, 247], [], [], [], [], [286], [], [], [286], [], []]
def zu_53 : List (List Nat) := [[], [284], [], [286], [307, 244, 36, 242, 243], [], [], [284], [], [286], [302, 248, 36, 246, 247], [], [], [], [], [], [], [286], [], [], [286], [], [286], [], [284], [162], [], [], [308], [310, 313, 38, 312, 8], [], [], [], [], [], [], [285], [57], [], [], [], [], [], [285], [], [314, 317, 31, 315, 316], [], [], [286], [], [], [286], [], [], [285], [57], [], [], [], [], [], []]
def zu_54 : List (List Nat) := [[], [327], [310, 313, 38, 312, 8], [], [], [], [], [], [], [], [], [286], [], [], [286], [], [], [], [329, 332, 38, 331, 10], [], [], [], [], [], [], [], [], [], [329, 332, 38, 331, 10], [], [], [], [], [], [], [], [], [], [329, 332, 38, 331, 10], [], [], [], [], [], [], [], [285], [], [], [], [], [333, 336, 31, 334, 335], [], []]
def zu_55 : List (List Nat) := [[], [], [], [], [], [], [], [284], [], [286], [307, 244, 36, 242, 243], [], [], [284], [], [286], [302, 248, 36, 246, 247], [], [], [], [], [], [], [], [], [], []]
def zu_56 : List (List Nat) := [[], [284], [], [286], [307, 244, 36, 242, 243], [], [], [284], [], [286], [302, 248, 36, 246, 247], [], [], [], [], [], [], [], [], [], [], [], [], [], [], [], [286], [], [], [286], [], []]
def zu_57 : List (List Nat) := [[], [159, 46, 47], [], [], [], [160], [], [], [161], []]
def zu_58 : List (List Nat) := [[], [161], [], [], [], [], [], []]
def zu_59 : List (List Nat) := [[], [], [], [], [161], [], [], [], [], []]
def zu_60 : List (List Nat) := [[], [], [249, 244, 36, 242, 243], [], [], [160], [], [], [], [], []]
def zu_61 : List (List Nat) := [[], [], [249, 244, 36, 242, 243], [], [], [160], [], [], [], []]
def zu_62 : List (List Nat) := [[], [], [], [], [160], [], [226, 227, 37, 228], [229, 230, 37, 231], [161], [], [160], [], [232, 105, 34, 104], []]
def zu_63 : List (List Nat) := [[], [], [161], []]
def zu_64 : List (List Nat) := [[720], [], [], [], [161], [], [], [], [], [], [], [], [161], [], [720], [], [], [], [], [721, 248, 36, 246, 247], [], [], [], [], [], [], []]
def zu_65 : List (List Nat) := [[], [45, 46, 47], [], [], [48, 49], [169], [], [], [48, 49], [170], [], [50], [], [52, 54, 31, 53], [171], [], [90], [], [], [171], [92, 94, 32, 93], [172], [], [90], [], [], [171], [92, 94, 32, 93], [173], [], [140], [], [], [142, 144, 35, 143], [174], [], [], [140, 154], [175], [], [], [176], [], [], [177], [], [], [178], [], [], [179], [], [], [], [180], [], [], [], [], [169], [], [], [], [169], [], [48], [], [156, 158, 36, 157], [], [], [], [], [], [], [], [170], [], [], [], [170], [], [48], [], [156, 158, 36, 157], [], [], [], [], [], [], [], [175], [], [], [], [175], [], [140], [], [], [142, 144, 35, 143], [], [], [], []]
def zu_66 : List (List Nat) := [[], [], [], [210, 213, 30, 212, 1], [], [], [], [214, 217, 30, 216, 2], []]
def zu_67 : List (List Nat) := [[], [], [210, 213, 30, 212, 1], [], [], [], [], [], [], [237, 240, 36, 238, 239], [], [], [], [218, 221, 30, 220, 3], [], [], [], [241, 244, 36, 242, 243], [], [], [], [218, 221, 30, 220, 3], [], [], [], [], [245, 248, 36, 246, 247], [250, 253, 30, 252, 4], [], [], [], [254, 257, 36, 255, 256], [], []]
def zu_68 : List (List Nat) := [[], [], [210, 213, 30, 212, 1], [], [], [], [], [], [], [237, 240, 36, 238, 239], [], [], [], [218, 221, 30, 220, 3], [], [], [], [241, 244, 36, 242, 243], [], [], [], [218, 221, 30, 220, 3], [], [], [], [], [245, 248, 36, 246, 247], [250, 253, 30, 252, 4], [], []]
def zu_69 : List (List Nat) := [[], [], [210, 213, 30, 212, 1], [], [], [], [], [], [], [237, 240, 36, 238, 239], [], [], [], [218, 221, 30, 220, 3], [], [], [266, 269, 36, 267, 268], [], []]
def zu_70 : List (List Nat) := [[], [], [], [274, 277, 30, 276, 5], [], [], [], [214, 217, 30, 216, 2], []]
def zu_71 : List (List Nat) := [[], [], [274, 277, 30, 276, 5], [], [], [], [], [], [], [237, 240, 36, 238, 239], [], [], [], [218, 221, 30, 220, 3], [], [], [], [241, 244, 36, 242, 243], [], [], [], [218, 221, 30, 220, 3], [], [], [], [245, 248, 36, 246, 247], [], [], [], [], [], [254, 257, 36, 255, 256], [], [], [], []]
def zu_72 : List (List Nat) := [[], [], [274, 277, 30, 276, 5], [], [], [], [], [], [], [237, 240, 36, 238, 239], [], [], [], [218, 221, 30, 220, 3], [], [278], [], [], [50], [], [52, 54, 31, 53], [280, 282, 38, 281], [294, 297, 38, 295, 296], []]
def zu_73 : List (List Nat) := [[], [], [274, 277, 30, 276, 5], [], [], [], [], [], [], [237, 240, 36, 238, 239], [], [], [], [218, 221, 30, 220, 3], [], [50], [], [52, 54, 31, 53], [], [278], [], [], [], [280, 282, 38, 281], [294, 297, 38, 295, 296], [], [], [], [], [], [], [171], [], [172], [], [338, 99, 32, 97, 98], [], [174], [], [172], [339, 342, 35, 340, 341], [], [], [], [], [175], [], [], [], [175], [], [], [347, 350, 35, 348, 349], [], [], [], [63], []]
def zu_74 : List (List Nat) := [[], [171], [], [364, 367, 31, 365, 366], [], [], [], [], [], [], [], [], [], [], [172], [], [], [712, 715, 32, 713, 714], [250, 253, 30, 252, 4], [], []]
def zu_75 : List (List Nat) := [[], [171], [], [355, 121, 31, 119, 120], [], [], [], [], [], [], [], [], [], [], [172], [], [], [356, 359, 32, 357, 358], [250, 253, 30, 252, 4], [], []]
def zu_76 : List (List Nat) := [[], [171], [], [364, 367, 31, 365, 366], [], [], [171], [], [355, 121, 31, 119, 120], [], [], [], [], [172], [], [764, 556, 32, 554, 555], [], [], [], [], [174], [], [372, 375, 35, 373, 374], [], [], [], [], [172], [], [], [376, 117, 32, 115, 116], [], [174], [], [172], [377, 380, 35, 378, 379], [], []]
def zu_77 : List (List Nat) := [[], [171], [], [364, 367, 31, 365, 366], [], [], [], [], [172], [], [368, 371, 32, 369, 370], [], [], [], [], [174], [], [372, 375, 35, 373, 374], [], [], [], [], [172], [124], [], [], [], [], [172], [], [], [376, 117, 32, 115, 116], [], [174], [], [172], [377, 380, 35, 378, 379], [], []]
def zu_78 : List (List Nat) := [[], [171], [], [364, 367, 31, 365, 366], [], [], [171], [], [364, 367, 31, 365, 366], [], [], [], [], [], [], [], [172], [], [368, 371, 32, 369, 370], [], [], [172], [], [368, 371, 32, 369, 370], [], [], [], [], [174], [], [372, 375, 35, 373, 374], [], [], [], [], [172], [], [], [386, 389, 32, 387, 388], [], [174], [], [172], [377, 380, 35, 378, 379], [], []]
def zu_79 : List (List Nat) := [[], [171], [], [364, 367, 31, 365, 366], [], [], [], [], [], [], [], [], [], [], [172], [127], [], [], [], [], [], [], [], [], [], [174], [], [372, 375, 35, 373, 374], [], [], [], [], [172], [127], [], [], [], [], [174], [], [172], [377, 380, 35, 378, 379], [], []]
def zu_80 : List (List Nat) := [[], [398, 400, 30, 399], [], [], [], [], [171], [63], [], [], [], [], [174], [], [372, 375, 35, 373, 374], [], [], [], [], [], [401, 404, 30, 403, 11], []]
def zu_81 : List (List Nat) := [[], [], [], [], [174], [148], [], [], [], [], [174], [148], [], [], [], [], [174], [], [], [172], [443, 446, 35, 444, 445], [], []]
def zu_82 : List (List Nat) := [[], [], [455, 458, 30, 457, 13], [], [], [], [], [171], [63], [], [], [], [], [175], [], [], [], [174], [459, 462, 35, 460, 461], [], [174], [148], []]
def zu_83 : List (List Nat) := [[], [], [455, 458, 30, 457, 13], [], [], [], [], [175], [], [], [468, 471, 35, 469, 470], [], [], [], [218, 221, 30, 220, 3], [], [], [174], [], [175], [], [], [459, 462, 35, 460, 461], [], [174], [], [174], [148], [], [172], [443, 446, 35, 444, 445], [], [174], [148], []]
def zu_84 : List (List Nat) := [[], [171], [], [364, 367, 31, 365, 366], [], [], [398, 400, 30, 399], [], [], [], [], [172], [], [], [476, 479, 32, 477, 478], []]
def zu_85 : List (List Nat) := [[], [171], [], [364, 367, 31, 365, 366], [], [], [398, 400, 30, 399], [], [], [], [], [172], [], [], [489, 412, 32, 410, 411], []]
def zu_86 : List (List Nat) := [[], [398, 400, 30, 399], [], [], [], [], [], [172], [], [494, 497, 32, 495, 496], [250, 253, 30, 252, 4], [], [172], [], [498, 501, 32, 499, 500], []]
def zu_87 : List (List Nat) := [[], [398, 400, 30, 399], [], [], [], [], [], [], [], [], [], [], [], [171], [63], [], [], [172], [], [], [489, 412, 32, 410, 411], [], [], [172], [], [], [506, 416, 32, 414, 415], [], [], [], [], [], [], [], [], [], [], [], [], [], [], [], [250, 253, 30, 252, 4], [], []]
def zu_88 : List (List Nat) := [[], [171], [], [364, 367, 31, 365, 366], [], [], [398, 400, 30, 399], [], [], [], [], [172], [], [], [506, 416, 32, 414, 415], [], [], [], [], [172], [], [], [476, 479, 32, 477, 478], [], [], [], [], [], [], [], [], [], [171], [63], [], [], [], [], [], [], [], [], [], [172], [], [], [489, 412, 32, 410, 411], [], [], [], [], [511, 514, 30, 513, 15], [], [], [], [], [], [], [], [], [], [], [], [], [], [], [], [], [250, 253, 30, 252, 4], [], []]
def zu_89 : List (List Nat) := [[], [398, 400, 30, 399], [], [], [], [], [], [], [210, 213, 30, 212, 1], [523, 526, 30, 525, 16], [], [], []]
def zu_90 : List (List Nat) := [[], [398, 400, 30, 399], [], [], [], [], [], [], [210, 213, 30, 212, 1], [523, 526, 30, 525, 16], [], [], []]
def zu_91 : List (List Nat) := [[], [], [], [], [], [210, 213, 30, 212, 1], [523, 526, 30, 525, 16], []]
def zu_92 : List (List Nat) := [[], [], [210, 213, 30, 212, 1], [], [], [], [], [398, 400, 30, 399], [], [], [], [], [171], [63], [], [], [], [], [237, 240, 36, 238, 239], [], [], [], [218, 221, 30, 220, 3], [], [], [163], [], [171], [63], [], [], [], [218, 221, 30, 220, 3], [], [], [173], [], [172], [515, 518, 32, 516, 517], [], [173], [], [569, 572, 32, 570, 571], [], [], [], [218, 221, 30, 220, 3], [], [], [173], [], [498, 501, 32, 499, 500], []]
def zu_93 : List (List Nat) := [[], [171], [], [364, 367, 31, 365, 366], [], [], [171], [], [364, 367, 31, 365, 366], [], [], [], [], [], [398, 400, 30, 399], [], [], [], [], [173], [], [172], [515, 518, 32, 516, 517], [], [173], [], [], [386, 389, 32, 387, 388], [], [], [172], [], [498, 501, 32, 499, 500], [], [], [173], [], [498, 501, 32, 499, 500], [], []]
def zu_94 : List (List Nat) := [[], [398, 400, 30, 399], [], [], [], [], [], [582, 585, 30, 584, 20], [], [], [], [250, 253, 30, 252, 4], [], [], [], [], [], [], []]
def zu_95 : List (List Nat) := [[], [171], [63], [], [], [], [], [], [], [528, 531, 30, 530, 17], [], [171], [533, 536, 31, 534, 535], [], [], [], [], [], [173], [594, 597, 32, 595, 596], [598, 230, 37, 231], [], [], [173], [545, 548, 32, 546, 547], [], [], [], [], [250, 253, 30, 252, 4], [], [172], [594, 597, 32, 595, 596], []]
def zu_96 : List (List Nat) := [[], [171], [], [364, 367, 31, 365, 366], [], [], [398, 400, 30, 399], [], [], [], [], [], [527], [], [], [173], [], [172], [515, 518, 32, 516, 517], [], [], [], [], [], [], [173], [127], [], [], [], [], [173], [], [498, 501, 32, 499, 500], [], [], [], [], [], [], [], [], [], [], [], [], [250, 253, 30, 252, 4], [], []]
def zu_97 : List (List Nat) := [[], [], [210, 213, 30, 212, 1], [], [], [], [], [398, 400, 30, 399], [], [], [], [], [171], [63], [], [], [], [], [173], [], [172], [515, 518, 32, 516, 517], [], [173], [], [494, 497, 32, 495, 496], [], [], [], [], [222, 225, 36, 223, 224], [], [], [], [], [], [], [], [], [173], [], [607, 610, 32, 608, 609], [], [], [171], [], [364, 367, 31, 365, 366], [], [], [], [], [173], [], [], [616, 619, 32, 617, 618], [], [], [], [], [], [254, 257, 36, 255, 256], [], [173], [], [], [376, 117, 32, 115, 116], [], [], [], []]
def zu_98 : List (List Nat) := [[], [], [210, 213, 30, 212, 1], [], [], [], [], [], [], [171], [63], [], [], [], [], [237, 240, 36, 238, 239], [], [], [], [218, 221, 30, 220, 3], [], [], [163], [], [], [], [], [], [218, 221, 30, 220, 3], [], [], [], [], [], [163], [], [], [], [245, 248, 36, 246, 247], [398, 400, 30, 399], [], [], [], [218, 221, 30, 220, 3], [], [], [], [], [], [624, 627, 30, 626, 23], [], []]
def zu_99 : List (List Nat) := [[], [398, 400, 30, 399], [], [], [], [], [171], [63], [], [], [], [], [], [], [528, 531, 30, 530, 17], [], [171], [533, 536, 31, 534, 535], [], [], [], [], [], [173], [], [498, 501, 32, 499, 500], [], [], [], [], [173], [545, 548, 32, 546, 547], [], [], [], [], [], [171], [533, 536, 31, 534, 535], [], [640, 643, 30, 642, 26], [], []]
def zu_100 : List (List Nat) := [[], [], [], [], [], [], [], [], [], [], [], [657], [], [], [], [], [], [171], [63], [], [], [], [], [174], [], [372, 375, 35, 373, 374], [], [], [], [], [], [], [], [], [], [], [], [], [], [], [658], [], [657], [], [], [], [], [], [659], [], [660], [], [], [401, 404, 30, 403, 11], [], [], [], [], [], []]
def zu_101 : List (List Nat) := [[], [176], []]
def zu_102 : List (List Nat) := [[], [177], []]
def zu_103 : List (List Nat) := [[], [178], []]
def zu_104 : List (List Nat) := [[], [], [], [], [], [], [], [], [], [677, 680, 30, 679, 27], []]
def zu_105 : List (List Nat) := [[710], [], [], [], [], [], [], [711], [], [], [], [], [677, 680, 30, 679, 27], [], [], [], [], [], [], [], [], [], [171], [59], [], [], [], [], [], [], [711], [], [], [], [172], [], [], [356, 359, 32, 357, 358], [], [], [], [], [], [], [], [], [], [], [], [171], [63], [], [], [], [], [], [], [711], [], [], [], [172], [], [], [712, 715, 32, 713, 714], [], [], [], [], [], [], [], [], [], [], [], [175], [], [], [711], [], [], [], [175], [], [], [148], [], [], [], [], [], [], [], [], [], [169], [], [], [], [169], [], [], [], [716, 719, 36, 717, 718], [], [], [], [], [], [], [], [170], [], [], [], [170], [], [], [], [716, 719, 36, 717, 718], [], [], [], [], []]
def zu_106 : List (List Nat) := [[], [], [], [], [169], [], [], [], [169], [], [], [], [], []]
def zu_107 : List (List Nat) := [[], [], [], [], [170], [], [], [], [170], [], [], [], [], []]
def zu_108 : List (List Nat) := [[], [], [], [], [], [], [], [], []]
def zu_109 : List (List Nat) := [[], [], [], [], [175], [], [], [], [], [], []]
def zu_110 : List (List Nat) := [[], [], [], [], [], [], [], [180], [], [], [], [], [], [], [], [], [179], [], []]
def zu_111 : List (List Nat) := [[], [], [176], []]
def zu_112 : List (List Nat) := [[], [], [], [644, 646, 30, 645], [650, 651, 37, 652], [], [], [], [], [], [177], [], [], [], [], [178], []]
def zu_113 : List (List Nat) := [[], [], [], [], [], [], [], [], [], [], [], [], [], [], [], [], [], [], [], [], [], [], [], [], [647, 648, 37, 649], []]
def zu_114 : List (List Nat) := [[], [], [], [], [], [], [], [], [], [], [], [218, 221, 30, 220, 3], [], [], [], [], [222, 225, 36, 223, 224], [], []]
def zu_115 : List (List Nat) := [[], [172], [], [405, 408, 32, 406, 407], [], [], [174], [], [172], [377, 380, 35, 378, 379], [], []]
def zu_116 : List (List Nat) := [[], [173], [], [172], [515, 518, 32, 516, 517], [], [173], [], [], [376, 117, 32, 115, 116], [], [173], [], [], [489, 412, 32, 410, 411], []]
def zu_117 : List (List Nat) := [[], [173], [], [172], [515, 518, 32, 516, 517], [], [173], [532, 109, 32, 107, 108], []]
def zu_118 : List (List Nat) := [[], [], [], [], [], [171], [63], [], [], [], [], [], [171], [63], [], [222, 225, 36, 223, 224], [527], [], [], [528, 531, 30, 530, 17], [], [171], [533, 536, 31, 534, 535], [], [], [], [], [], [], [537, 540, 30, 539, 18], [], [], [], [], [], [], [], [], [], [], [171], [63], [], [], [], [], [173], [124], [], [], [254, 257, 36, 255, 256], [], [], [], [173], [545, 548, 32, 546, 547], [], [], [], []]
def zu_119 : List (List Nat) := [[], [], [], [173], [], [498, 501, 32, 499, 500], [], [], [173], [], [541, 544, 32, 542, 543], [], [], [173], [], [498, 501, 32, 499, 500], [], [173], [], [498, 501, 32, 499, 500], [], []]
def zu_120 : List (List Nat) := [[], [], [], [], [171], [63], [], [], [], [], [], [], [], [171], [63], [], [], [], [], [], [586, 589, 30, 588, 21], [], [], [], [], [], [], [], [], [], [], [], [], []]
def zu_121 : List (List Nat) := [[], [172], [], [], [506, 416, 32, 414, 415], [], [], [172], [], [], [506, 416, 32, 414, 415], [], [], [], [], [173], [], [172], [515, 518, 32, 516, 517], [], [173], [], [], [386, 389, 32, 387, 388], [], [173], [], [], [489, 412, 32, 410, 411], [], [172], [], [], [489, 412, 32, 410, 411], [], [], [173], [], [], [489, 412, 32, 410, 411], [], [172], [], [], [489, 412, 32, 410, 411], [], [], [], [], []]
def zu_122 : List (List Nat) := [[], [], [], [], [], [528, 531, 30, 530, 17], [], [171], [533, 536, 31, 534, 535], [], [], [], [], [], [628, 631, 30, 630, 24], [], [], [173], [124], [], [], [], [], [], [], [], [], [], [], [], [], [], [], [173], [545, 548, 32, 546, 547], [], [], [], [], [], [177], [], [], [178], [], [], [250, 253, 30, 252, 4], []]
def zu_123 : List (List Nat) := [[], [], [], [], [], [], [], [], [632, 635, 30, 634, 25], [], [], [], [], [], [], []]
def zu_124 : List (List Nat) := [[], [], [], [], [], [], [163], [], [], [], [245, 248, 36, 246, 247], [], [], [], [], [], [], [], [173], [], [498, 501, 32, 499, 500], [], [], [], [], [], [], [245, 248, 36, 246, 247], [], [], [], [], [], [], []]
def zu_125 : List (List Nat) := [[], [], [], [171], [63], [], [], [171], [59], [], [], [174], [148], [], [], [172], [], [494, 497, 32, 495, 496], [], [], [172], [681, 684, 32, 682, 683], [], [], [171], [], [685, 688, 31, 686, 687], [693, 695, 39, 694], [], [], [169], [699, 701, 30, 700], [], [], [170], [699, 701, 30, 700], [], [], [702, 705, 30, 704, 28], []]
def zu_126 : List (List Nat) := [[], [], [], [], [], [], [], [], [], [], [], [237, 240, 36, 238, 239], [], [], [], [], [], []]
def zu_127 : List (List Nat) := [[], [], [], [], [], [], [175], [], [], [], [175], [], [], [468, 471, 35, 469, 470], [], [], [], [], [], []]
def zu_128 : List (List Nat) := [[], [], [], [], [696], [], [], [], [], [697], [], [], [], [], [697], [], [], [], [], [], [], [], [], [698], [], [], [], [], [], [], [], [], [], [], [], [], [], [], [], [], [], []]
def zu_129 : List (List Nat) := [[], [], [], [], [], [], [], [], [], [], [], [], [], [], []]
def zu_130 : List (List Nat) := [[], [], [], [], [], [], [], [], [725], [], [], [], [], []]
def zu_131 : List (List Nat) := [[], [729], [], [], [], []]
def zu_132 : List (List Nat) := [[], [], [], [], [], [], [], [], [], [], [], [], [], [], [], [], [], [], [], [], [], [], [], [], [], []]
def zu_133 : List (List Nat) := [[], [], [], [], [], [], [], [], [], [], [], [], [], [], [], [], [], [], [], [], []]
def zu_134_0 : List (List Nat) := [[], [], [722, 724, 29, 723], [], [], [], [], [], [], [726, 728, 29, 727], [], [], [], [], [], [], [], [], [], [], [], [], [], [], [], [], [], [], [726, 728, 29, 727], [], [], [], [], [], [733, 736, 30, 734, 735], [], [], [], [], [], [], [737, 740, 30, 738, 739], [], [], [], [], [], []]
def zu_134_1 : List (List Nat) := [[], [], [], [], [], [], [], [], [], [], [], [], [], [], [], [], [], [], [], [], [], [], [], [], [], [], [], [726, 728, 29, 727], [], [], [], [], [], [], [], [], [], [], [], [], [], [741, 743, 29, 742], [737, 740, 30, 738, 739], [], [], [], [], []]
def zu_134_2 : List (List Nat) := [[], [], [], [], [], [], [], [], [], [], [], [], [], [], [], [], [], [], [], [], [], [], [], [], [], [], [], [], [], [], [], [], [], [], [], [], [], [], [722, 724, 29, 723], [], [], [], [], [], [], [], [726, 728, 29, 727], []]
def zu_134_3 : List (List Nat) := [[], [], [], [], [], [], [], [], [], [726, 728, 29, 727], [], [], [], [], [], [], [], [], [], [], [], [], [], [], [], [], [], [], [], [], [], [], [], [], [], [], [], [], [], [], [], [], [], [], [], [], [744, 746, 29, 745], [737, 740, 30, 738, 739]]
def zu_134_4 : List (List Nat) := [[], [], [], [], [], [], [], [], [], [], [], [], [], [], [], [], [737, 740, 30, 738, 739], [], [], [], [], [], [], [], [], [], [], [], [], [], [], [], [], [737, 740, 30, 738, 739], [], [], [], [], [], [], [], [], [], [], [], [], [], []]
def zu_134_5 : List (List Nat) := [[], [], [737, 740, 30, 738, 739], [], [], [], [], [], [], [], [], [], [], [], [], [747, 750, 30, 748, 749], [], [], [], [], [270, 273, 30, 271, 272], [], [], [], [], [], [], [], []]
def zu_134 : List (List Nat) := zu_134_0 ++ (zu_134_1 ++ (zu_134_2 ++ (zu_134_3 ++ (zu_134_4 ++ (zu_134_5)))))
def zu_135 : List (List Nat) := [[], [], [], [], [], [], [], [], [], [], [], [], [], [], [], [], [], [], []]
def zu_136 : List (List Nat) := [[], [], [], [], [], [], [], [], [], [], [], [], [], [], [], [], [], [], [], []]
def zu_137_0 : List (List Nat) := [[], [], [], [], [726, 728, 29, 727], [], [], [], [], [], [], [], [726, 728, 29, 727], [], [], [], [], [], [], [], [726, 728, 29, 727], [], [], [], [], [], [], [], [], [], [], [], [757, 759, 29, 758], [], [], [], [], [], [], [], [], [], [], [], [], [], [], []]
def zu_137_1 : List (List Nat) := [[], [], [], [760, 763, 30, 761, 762], [], [], [], [], [], [], [], [], [], [], [], [], [], [], [], [], [], [], [], [], [], [], [], [], [], [], [], [], [], [], [], [], [], [], [], [], [], [], [], [], [], [], [], []]
def zu_137_2 : List (List Nat) := [[], [], [], [], [], [], [], [], [], [], [], [], [], [], [], [], [], [], [382, 385, 30, 383, 384], [], [], [], [], [], [], [], [], [], [], [], [], [], [], [], [], [], [], [], [], [], [], [], [], [], [], [], [], []]
def zu_137_3 : List (List Nat) := [[], [], [], [], [360, 363, 30, 361, 362], [], [], [], [], [], [], [], [], [], [], [], [], [], [], [], [726, 728, 29, 727], [], [], [], [], [], [], [], [], [], [], [], [], [], [], [], [], [], [], [], [390, 393, 30, 391, 392], [], [], [], [], [], [], []]
def zu_137_4 : List (List Nat) := [[], [], [], []]
def zu_137 : List (List Nat) := zu_137_0 ++ (zu_137_1 ++ (zu_137_2 ++ (zu_137_3 ++ (zu_137_4))))
def zu_138 : List (List Nat) := [[], [], [], [768, 771, 30, 769, 770], [], [], [], [661, 664, 30, 662, 663], [], [], []]
def zus : List (List (List Nat)) := [zu_0, zu_1, zu_2, zu_3, zu_4, zu_5, zu_6, zu_7, zu_8, zu_9, zu_10, zu_11, zu_12, zu_13, zu_14, zu_15, zu_16, zu_17, zu_18, zu_19, zu_20, zu_21, zu_22, zu_23, zu_24, zu_25, zu_26, zu_27, zu_28, zu_29, zu_30, zu_31, zu_32, zu_33, zu_34, zu_35, zu_36, zu_37, zu_38, zu_39, zu_40, zu_41, zu_42, zu_43, zu_44, zu_45, zu_46, zu_47, zu_48, zu_49, zu_50, zu_51, zu_52, zu_53, zu_54, zu_55, zu_56, zu_57, zu_58, zu_59, zu_60, zu_61, zu_62, zu_63, zu_64, zu_65, zu_66, zu_67, zu_68, zu_69, zu_70, zu_71, zu_72, zu_73, zu_74, zu_75, zu_76, zu_77, zu_78, zu_79, zu_80, zu_81, zu_82, zu_83, zu_84, zu_85, zu_86, zu_87, zu_88, zu_89, zu_90, zu_91, zu_92, zu_93, zu_94, zu_95, zu_96, zu_97, zu_98, zu_99, zu_100, zu_101, zu_102, zu_103, zu_104, zu_105, zu_106, zu_107, zu_108, zu_109, zu_110, zu_111, zu_112, zu_113, zu_114, zu_115, zu_116, zu_117, zu_118, zu_119, zu_120, zu_121, zu_122, zu_123, zu_124, zu_125, zu_126, zu_127, zu_128, zu_129, zu_130, zu_131, zu_132, zu_133, zu_134, zu_135, zu_136, zu_137, zu_138]
