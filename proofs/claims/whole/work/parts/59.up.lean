/-! UP: the class's loop; both alike -/
section UPC
variable {r : zE} {c0 c1 c2 : Nat} {I : Nat → Int32} {J : Nat → Int64} {Q : Nat → Nat → Int32} {N A : zBr} {U : Nat → Int32} {V : Nat → Int64} {X : Nat → Nat → Int32} {S : zSs} {t : zH} {C : zCs} {c n : Nat} {x : Nat} {F : zBr → zH} {B : zBr}
theorem bes_in {H : zA} {q m : Nat} {w : Int32} (h : ¬ sBes C H q m w = 0) : ¬ sIn C H q w = 0 := fun e => h (by
  unfold sBes
  rw [if_pos e, ite_self])
theorem b_hb10 (b : zBx r x c C F) (k : zCk C) (E : zEk r) {m : Nat} (hm : m < C.2.1) (w : Int32) : ∀ n j, j + n = C.2.1 → zev r i_X0_hasBulkierNeighbour 10 [some (.ref x), some (.int (nI m)), some (.int w), some (.int (sBe C B.1 m w)), some (.int (nI j))] [] (F B) = some (some (.int (if ((List.range' j n).filter fun q => !decide (sIn C B.1 q w = 0)).all (yOk (yAdj C B.1 w) (yHt C) m) = true then 0 else 1)), F B)
  | 0, j, e => by
    obtain ⟨v, o, g0, -⟩ := id (b B)
    obtain ⟨-, -, v0, -⟩ := id v
    refine (E_X0_hasBulkierNeighbour_10 ..).trans ?_
    rw [show j = C.2.1 by omega]
    simp only [g0, v0, Option.bind_some, if_neg (nI_nlt6 k), List.range'_zero, List.filter_nil, List.all_nil, if_true]
  | n + 1, j, e => by
    obtain ⟨v, o, g0, -⟩ := id (b B)
    obtain ⟨-, -, v0, -⟩ := id v
    have hj : j < C.2.1 := by omega
    have ih := b_hb10 b k E hm w n (j + 1) (by omega)
    refine (E_X0_hasBulkierNeighbour_10 ..).trans ?_
    simp only [g0, v0, v.1, Option.bind_some, if_pos (nI_lt6 k hj), sBe_bit k hj, nI_1, if_true, cr_bulk v k E hj, cr_bulk v k E hm, zcI_some, ih]
    rw [List.range'_succ]
    by_cases q : sBes C B.1 j m w = 0
    · rw [if_pos q]
      have ok : yOk (yAdj C B.1 w) (yHt C) m j = true := by simp [yOk, yAdj, q]
      by_cases p : sIn C B.1 j w = 0
      · simp only [List.filter_cons, p, decide_true, Bool.not_true, Bool.false_eq_true, if_false]
      · simp only [List.filter_cons, p, decide_false, Bool.not_false, if_true, List.all_cons, ok, Bool.true_and]
    · rw [if_neg q]
      have p := bes_in q
      obtain ⟨a1, a2⟩ := yHt_eq C j
      obtain ⟨b1, b2⟩ := yHt_eq C m
      simp only [List.filter_cons, p, decide_false, Bool.not_false, if_true, List.all_cons, a1, b1]
      by_cases z : yHt C m < yHt C j
      · have ok : yOk (yAdj C B.1 w) (yHt C) m j = false := by simp [yOk, yAdj, q]; omega
        rw [if_pos (nI_lt z (by omega)), ok, Bool.false_and]
        rfl
      · have ok : yOk (yAdj C B.1 w) (yHt C) m j = true := by simp [yOk, yAdj, q]; omega
        rw [if_neg (nI_nlt (by omega) (by omega)), ok, Bool.true_and]
theorem sm_range (C : zCs) (H : zA) (w : Int32) : yMen C H w = (List.range' 0 C.2.1).filter fun q => !decide (sIn C H q w = 0) := by
  unfold yMen
  rw [List.range_eq_range']
theorem b_bulkier (b : zBx r x c C F) (k : zCk C) (E : zEk r) (g : zCG C B.1 B.2.1) {m : Nat} (hm : m < C.2.1) (w : Int32) : zev r i_X0_hasBulkierNeighbour 0 [some (.ref x), some (.int (nI m)), some (.int w), none, none] [] (F B) = some (some (.int (if (yMen C B.1 w).all (yOk (yAdj C B.1 w) (yHt C) m) = true then 0 else 1)), F B) := by
  obtain ⟨v, o, -⟩ := id (b B)
  simp only [E_X0_hasBulkierNeighbour_0, o, if_true, b_neigh b k g hm, zcI_some, sm_range]
  exact b_hb10 b k E hm w C.2.1 0 (by omega)
theorem b_ftg2 (b : zBx r x c C F) (k : zCk C) (E : zEk r) (g : zCG C B.1 B.2.1) (w : Int32) : ∀ n j, j + n = C.2.1 → zev r i_X0_firstToGetUp 2 [some (.ref x), some (.int w), some (.int (nI j))] [] (F B) = some (some (.int (match ((List.range' j n).filter fun q => !decide (sIn C B.1 q w = 0)).find? (fun a => (yMen C B.1 w).all (yOk (yAdj C B.1 w) (yHt C) a)) with | some m => nI m | none => -9)), F B)
  | 0, j, e => by
    obtain ⟨v, o, g0, -⟩ := id (b B)
    obtain ⟨-, -, v0, -⟩ := id v
    refine (E_X0_firstToGetUp_2 ..).trans ?_
    rw [show j = C.2.1 by omega]
    simp only [g0, v0, Option.bind_some, if_neg (nI_nlt6 k), List.range'_zero, List.filter_nil, List.find?_nil]
  | n + 1, j, e => by
    obtain ⟨v, o, g0, -⟩ := id (b B)
    obtain ⟨-, -, v0, -⟩ := id v
    have hj : j < C.2.1 := by omega
    have ih := b_ftg2 b k E g w n (j + 1) (by omega)
    refine (E_X0_firstToGetUp_2 ..).trans ?_
    simp only [g0, v0, o, Option.bind_some, if_pos (nI_lt6 k hj), nI_1, if_true, b_in b k hj, b_bulkier b k E g hj, zcI_some, ih]
    rw [List.range'_succ]
    by_cases p : sIn C B.1 j w = 0
    · simp only [List.filter_cons, p, decide_true, Bool.not_true, Bool.false_eq_true, if_false, if_true]
    · simp only [List.filter_cons, p, decide_false, Bool.not_false, if_true, if_false, List.find?_cons]
      by_cases q : (yMen C B.1 w).all (yOk (yAdj C B.1 w) (yHt C) j) = true
      · simp only [q, if_true]
      · simp only [q, Bool.false_eq_true, if_false, i01, if_true]
theorem b_first2 (b : zBx r x c C F) (k : zCk C) (E : zEk r) (g : zCG C B.1 B.2.1) (w : Int32) : zev r i_X0_firstToGetUp 0 [some (.ref x), some (.int w), none] [] (F B) = some (some (.int (match (yMen C B.1 w).find? (fun a => (yMen C B.1 w).all (yOk (yAdj C B.1 w) (yHt C) a)) with | some m => nI m | none => -9)), F B) := by
  rw [E_X0_firstToGetUp_0]
  have := b_ftg2 b k E g w C.2.1 0 (by omega)
  rw [← sm_range] at this
  exact this
theorem b_way13 (b : zBx r x c C F) (k : zCk C) (E : zEk r) (m : Nat) (w : Int32) : ∀ n j z, j + n = C.2.1 → zev r i_X0_inTheWayOf 13 [some (.ref x), some (.int (nI m)), some (.int w), some (.int (sBe C B.1 m w)), some (.int (nI z)), some (.int (nI j))] [] (F B) = some (some (.int (nI (z + (((List.range' j n).filter fun q => !decide (sIn C B.1 q w = 0)).map (yWw (yAdj C B.1 w) (yHt C) m)).sum))), F B)
  | 0, j, z, e => by
    obtain ⟨v, o, g0, -⟩ := id (b B)
    obtain ⟨-, -, v0, -⟩ := id v
    refine (E_X0_inTheWayOf_13 ..).trans ?_
    rw [show j = C.2.1 by omega]
    simp only [g0, v0, Option.bind_some, if_neg (nI_nlt6 k), List.range'_zero, List.filter_nil, List.map_nil, List.sum_nil, Nat.add_zero]
  | n + 1, j, z, e => by
    obtain ⟨v, o, g0, -⟩ := id (b B)
    obtain ⟨-, -, v0, -⟩ := id v
    have hj : j < C.2.1 := by omega
    refine (E_X0_inTheWayOf_13 ..).trans ?_
    simp only [g0, v0, v.1, Option.bind_some, if_pos (nI_lt6 k hj), sBe_bit k hj, nI_1, if_true, cr_bulk v k E hj, zcI_some]
    rw [List.range'_succ]
    by_cases q : sBes C B.1 j m w = 0
    · rw [if_pos q, b_way13 b k E m w n (j + 1) z (by omega)]
      have wz : yWw (yAdj C B.1 w) (yHt C) m j = 0 := by simp [yWw, yAdj, q]
      by_cases p : sIn C B.1 j w = 0
      · simp only [List.filter_cons, p, decide_true, Bool.not_true, Bool.false_eq_true, if_false]
      · simp only [List.filter_cons, p, decide_false, Bool.not_false, if_true, List.map_cons, List.sum_cons, wz, Nat.zero_add]
    · have p := bes_in q
      have wz : yWw (yAdj C B.1 w) (yHt C) m j = 1 + yHt C j := by simp [yWw, yAdj, q]
      rw [if_neg q, (yHt_eq C j).1, show (1 : Int32) = nI 1 from rfl, nI_add, nI_add, b_way13 b k E m w n (j + 1) _ (by omega)]
      simp only [List.filter_cons, p, decide_false, Bool.not_false, if_true, List.map_cons, List.sum_cons, wz, Nat.add_assoc]
theorem b_way (b : zBx r x c C F) (k : zCk C) (E : zEk r) (g : zCG C B.1 B.2.1) {m : Nat} (hm : m < C.2.1) (w : Int32) : zev r i_X0_inTheWayOf 0 [some (.ref x), some (.int (nI m)), some (.int w), none, none, none] [] (F B) = some (some (.int (nI ((yMen C B.1 w).map (yWw (yAdj C B.1 w) (yHt C) m)).sum)), F B) := by
  obtain ⟨v, o, -⟩ := id (b B)
  simp only [E_X0_inTheWayOf_0, o, if_true, b_neigh b k g hm, zcI_some]
  have := b_way13 (B := B) b k E m w C.2.1 0 0 (by omega)
  rw [← sm_range, Nat.zero_add] at this
  exact this
/-- one who has got up -/
theorem sm_up {H : zA} {w : Int32} {m : Nat} : yMen C (upd H m (-9)) w = (yMen C H w).erase m := by
  have nd : (yMen C H w).Nodup := List.Pairwise.filter _ List.nodup_range
  rw [nd.erase_eq_filter]
  unfold yMen
  rw [List.filter_filter]
  refine List.filter_congr fun q _ => ?_
  by_cases e : q = m
  · subst e
    have : sIn C (upd H q (-9)) q w = 0 := by
      unfold sIn
      rw [upd_s, if_pos rfl]
    simp [this]
  · rw [sIn_c (show upd H m (-9) q = H q from upd_n e)]
    simp [e]
theorem adj_up {H : zA} {w : Int32} {m a b : Nat} (ha : a ≠ m) (hb : b ≠ m) : yAdj C (upd H m (-9)) w a b = yAdj C H w a b := by
  unfold yAdj
  rw [sBes_c (show upd H m (-9) b = H b from upd_n hb) (show upd H m (-9) a = H a from upd_n ha)]
theorem ww_self {H : zA} {w : Int32} {m : Nat} : yWw (yAdj C H w) (yHt C) m m = 0 := by
  simp [yWw, yAdj, sBes_self]
theorem many_sm (k : zCk C) (H : zA) (w : Int32) : sMany C H w = nI (yMen C H w).length := by
  unfold sMany
  have := zfd_inv (f := fun (a : Int32) m => if sIn C H m w = 0 then a else a + 1) (fun j a => a = nI ((List.range j).filter fun m => !decide (sIn C H m w = 0)).length) (j := 0) (n := C.2.1) (s := 0) rfl (fun a i _ _ h => by
    rw [h, List.range_succ, List.filter_append]
    by_cases q : sIn C H i w = 0
    · simp only [q, if_true, List.filter_cons, decide_true, Bool.not_true, Bool.false_eq_true, if_false, List.filter_nil, List.append_nil]
    · simp only [q, if_false, List.filter_cons, decide_false, Bool.not_false, if_true, List.filter_nil, List.length_append, List.length_cons, List.length_nil, Nat.zero_add, nI_1])
  rw [Nat.zero_add] at this
  exact this
theorem k_up66 (E : zEk r) (k : zCk C) (hC : zCt r t c C) {j : Nat} (hj : j < 6) (w a : Int32) {n0 : Nat} (h6 : n0 ≤ 6) (hI : I (6 + j) = nI n0) : ∀ (n i z : Nat) (A : zBr) (f : zA), (yMen C A.1 w).length = n → i + n = n0 → zCG C A.1 A.2.1 → ∃ A' f', zev r i_X5_up 66 [some (.ref (r.1 + 0)), some (.int w), some (.int a), some (.ref (r.1 + 23 + 2 * j)), some (.int (nI n0)), some (.int (nI z)), some (.int (nI i)), none] [] (zmk r c c (c) I J (va_up Q (13 + j) f) N (A) U V X S t) = some (some (.int (nI (z + yCs (yAdj C A.1 w) (yHt C) (yUp C A.1 w)))), (zmk r c c (c) I J (va_up Q (13 + j) f') N (A') U V X S t)) ∧ (∀ q, q < i → f' q = f q) ∧ ∀ q, q < n → f' (i + q) = nI ((yUp C A.1 w).getD q 0)
  | 0, i, z, A, f, hl, hi, g => by
    refine ⟨A, f, ?_, fun _ _ => rfl, fun q hq => absurd hq (Nat.not_lt_zero _)⟩
    refine (E_X5_up_66 ..).trans ?_
    rw [show i = n0 by omega, if_neg (nI_nlt (Nat.le_refl _) (by omega))]
    have : yUp C A.1 w = [] := by unfold yUp; rw [hl]; rfl
    rw [this]
    rfl
  | n + 1, i, z, A, f, hl, hi, g => by
    have k2 := k.2.1
    have ax := aBx (r := r) (c0 := c) (c1 := c) (I := I) (J := J) (Q := va_up Q (13 + j) f) (N := N) (U := U) (V := V) (X := X) (S := S) hC
    obtain ⟨m, hf, hm⟩ := yG_some (yAdj C A.1 w) (yHt C) (s := yMen C A.1 w) (by intro q; rw [q] at hl; simp at hl)
    have hm2 := (sm_lt hm).1
    have e1 := b_first2 ax k E (B := A) g w
    rw [hf] at e1
    have e2 := b_way ax k E (B := A) g hm2 w
    have es := wr_set (r := r) (c0 := c) (c1 := c) (c2 := c) (I := I) (J := J) (Q := va_up Q (13 + j) f) (N := N) (A := A) (U := U) (V := V) (X := X) (S := S) (t := t) hj (n := n0) (k := i) hI (by omega) (by omega) (nI m)
    rw [va_same, bx_uu] at es
    have ax2 := aBx (r := r) (c0 := c) (c1 := c) (I := I) (J := J) (Q := va_up Q (13 + j) (upd f i (nI m))) (N := N) (U := U) (V := V) (X := X) (S := S) hC
    obtain ⟨G', e3, g'⟩ := b_move ax2 k (B := A) g hm2 (h := -9) (.inl (.inl rfl))
    have nd : (yMen C A.1 w).Nodup := List.Pairwise.filter _ List.nodup_range
    have hl' : (yMen C (upd A.1 m (-9)) w).length = n := by rw [sm_up, List.length_erase_of_mem hm, hl]; rfl
    obtain ⟨A', f', e4, h1, h2⟩ := k_up66 E k hC hj w a h6 hI n (i + 1) (z + ((yMen C A.1 w).map (yWw (yAdj C A.1 w) (yHt C) m)).sum) (upd A.1 m (-9), G', A.2.2.1, A.2.2.2) (upd f i (nI m)) hl' (by omega) g'
    -- the order without him
    have eG : yUp C (upd A.1 m (-9)) w = yG (yAdj C A.1 w) (yHt C) n ((yMen C A.1 w).erase m) := by
      unfold yUp
      rw [hl', sm_up]
      refine yG_c fun a b ha hb => ?_
      rw [nd.mem_erase_iff] at ha hb
      exact adj_up ha.1 hb.1
    have eU : yUp C A.1 w = m :: yUp C (upd A.1 m (-9)) w := by
      rw [eG]
      unfold yUp
      rw [hl, yG, hf]
    have pm : (yUp C (upd A.1 m (-9)) w).Perm ((yMen C A.1 w).erase m) := by
      rw [eG]
      exact yG_perm (by rw [List.length_erase_of_mem hm, hl]; rfl)
    have eS : ((yMen C A.1 w).map (yWw (yAdj C A.1 w) (yHt C) m)).sum = ((yUp C (upd A.1 m (-9)) w).map (yWw (yAdj C A.1 w) (yHt C) m)).sum := by
      rw [((List.perm_cons_erase hm).map (yWw (yAdj C A.1 w) (yHt C) m)).sum_nat, (pm.map (yWw (yAdj C A.1 w) (yHt C) m)).sum_nat, List.map_cons, List.sum_cons, ww_self, Nat.zero_add]
    have eC : yCs (yAdj C (upd A.1 m (-9)) w) (yHt C) (yUp C (upd A.1 m (-9)) w) = yCs (yAdj C A.1 w) (yHt C) (yUp C (upd A.1 m (-9)) w) := cs_c fun a b ha hb => by
      have ha := pm.mem_iff.mp ha
      have hb := pm.mem_iff.mp hb
      rw [nd.mem_erase_iff] at ha hb
      exact adj_up ha.1 hb.1
    refine ⟨A', f', ?_, fun q hq => (h1 q (by omega)).trans (upd_n (by omega)), fun q hq => ?_⟩
    · refine (E_X5_up_66 ..).trans ?_
      simp only [if_pos (nI_lt (show i < n0 by omega) (show n0 < 2 ^ 31 by omega)), mo_0, mg_0_0, mg_0_1, mg_0_2, mg_0_3, mg_0_4, mg_0_5, mg_0_6, mg_0_7, mg_0_8, mg_0_9, mg_0_10, mg_0_11, mo_14, (hC ..).1, Option.bind_some, if_true, e1, zcI_some, cr_man (hC ..), zhk_in hm2 (show C.2.1 < 2 ^ 31 by omega), i01, if_false, e2, mo_r hj, es, zcV_some, e3, nI_1, nI_add]
      refine e4.trans ?_
      dsimp only
      rw [eC, eU, yCs, eS, Nat.add_assoc]
    · rw [eU]
      cases q with
      | zero =>
        rw [Nat.add_zero, h1 i (by omega), upd_s]
        rfl
      | succ q =>
        have := h2 q (by omega)
        rw [show i + (q + 1) = i + 1 + q by omega, this]
        rfl
theorem lk_up (E : zEk r) (w a : Int32) {h : zH} (st : zSt r n h) : zBoth r n n (zev r i_X5_up 0 [some (.ref (r.1 + 0)), some (.int w), some (.int a), none, none, none, none, none] []) (zev r i_X6_up 0 [some (.ref (r.1 + 49)), some (.int w), some (.int a), none, none, none, none, none] []) h := by
  obtain ⟨C, c, c2, I, J, Q, N, A, U, V, X, S, t, rfl, iv, t1, t2⟩ := st
  obtain ⟨k, hC, mv, _, _, _, no, -⟩ := id iv
  have k2 := k.2.1
  rcases zhk_cases 6 (by decide) a with e | ⟨e, j, hj, rfl⟩
  · refine both (v := (-1)) (h1 := (zmk r c c c2 I J Q N A U V X S t)) (h2 := (zmk r c c c2 I J Q N A U V X S t)) ?_ ?_ (st_mk iv t1 t2)
    · simp only [E_X5_up_0, mo_0, mg_0_0, mg_0_1, mg_0_2, mg_0_3, mg_0_4, mg_0_5, mg_0_6, mg_0_7, mg_0_8, mg_0_9, mg_0_10, mg_0_11, if_true, k_rowAt, e, zcQ_null]
    · simp only [E_X6_up_0, m_when, m_row, e, zcI_some, if_true]
      rw [ite_self]
  rcases zhk_cases 3 (by decide) w with g | ⟨g, w, hw, rfl⟩
  · refine both (v := (-1)) (h1 := (zmk r c c c2 I J Q N A U V X S t)) (h2 := (zmk r c c c2 I J Q N A U V X S t)) ?_ ?_ (st_mk iv t1 t2)
    · simp only [E_X5_up_0, mo_0, mg_0_0, mg_0_1, mg_0_2, mg_0_3, mg_0_4, mg_0_5, mg_0_6, mg_0_7, mg_0_8, mg_0_9, mg_0_10, mg_0_11, if_true, k_rowAt, e, i01, if_false, zcQ_ref, k_when, g, zcI_some]
    · simp only [E_X6_up_0, m_when, g, zcI_some, if_true]
  by_cases m0 : nI C.2.1 = 0
  · refine both (v := (-4)) (h1 := (zmk r c c c2 I J Q N A U V X S t)) (h2 := (zmk r c c c2 I J Q N A U V X S t)) ?_ ?_ (st_mk iv t1 t2)
    · simp only [E_X5_up_0, mo_0, mg_0_0, mg_0_1, mg_0_2, mg_0_3, mg_0_4, mg_0_5, mg_0_6, mg_0_7, mg_0_8, mg_0_9, mg_0_10, mg_0_11, if_true, k_rowAt, e, i01, if_false, zcQ_ref, k_when, g, zcI_some, (hC ..).2.2.1, Option.bind_some, m0]
    · simp only [E_X6_up_0, m_when, g, i01, if_false, zcI_some, m_row, e, mo_49, mg_49_0, mg_49_1, mg_49_2, mg_49_3, mg_49_4, mg_49_5, mg_49_6, mg_49_7, mg_49_8, mg_49_9, mg_49_10, mg_49_11, mg_49_12, mg_49_13, mg_49_14, mg_49_15, mg_49_16, mg_49_17, mg_49_18, mg_49_19, mg_49_20, mg_49_21, mg_49_22, mg_49_23, mg_49_24, mg_49_25, if_true, Option.bind_some, mv.2.1, m0]
  obtain ⟨f2, e2, h2, h3⟩ := m_up (r := r) (S := S) mv k no hj hw m0
  have ax := aBx (r := r) (c0 := c) (c1 := c) (I := I) (J := J) (Q := Q) (N := N) (U := U) (V := V) (X := X) (S := S) hC
  have es : yMen C (yCp N A).1 (nI w) = yMen C N.1 (nI w) := sm_c (cp_h k N A) (nI w)
  have n6 := sm_len k N.1 (nI w)
  have em := b_many ax k (B := yCp N A) (nI w)
  rw [many_sm k, es] at em
  obtain ⟨A', f, e1, -, h1⟩ := k_up66 (J := J) (Q := Q) (N := N) (U := U) (V := V) (X := X) (S := S) (I := va_up I (6 + j) (nI (yMen C N.1 (nI w)).length)) E k hC hj (nI w) (nI j) n6 va_same (yMen C N.1 (nI w)).length 0 0 (yCp N A) (fun i => if i < 60 then 0 else Q (13 + j) i) (by rw [es]) (by omega) (cp_cg k no.1 A)
  have eu : yUp C (yCp N A).1 (nI w) = yUp C N.1 (nI w) := by
    unfold yUp
    rw [es]
    exact yG_c fun a b ha hb => adj_c (cp_h k N A) (sm_lt ha).1 (sm_lt hb).1 (nI w)
  have ec : yCs (yAdj C (yCp N A).1 (nI w)) (yHt C) (yUp C N.1 (nI w)) = yCs (yAdj C N.1 (nI w)) (yHt C) (yUp C N.1 (nI w)) := cs_c fun a b ha hb => by
    have ha := (yG_perm rfl).mem_iff.mp ha
    have hb := (yG_perm rfl).mem_iff.mp hb
    exact adj_c (cp_h k N A) (sm_lt ha).1 (sm_lt hb).1 (nI w)
  rw [eu, ec, Nat.zero_add] at e1
  rw [eu] at h1
  obtain ⟨S', e3⟩ := e2 c c c (va_up I (6 + j) (nI (yMen C N.1 (nI w)).length)) J (va_up Q (13 + j) f) N A' V t
  refine both (v := (nI (yCs (yAdj C N.1 (nI w)) (yHt C) (yUp C N.1 (nI w))))) (h1 := (zmk r c c (c) (va_up I (6 + j) (nI (yMen C N.1 (nI w)).length)) J (va_up Q (13 + j) f) N (A') U V X S t)) (h2 := (zmk r c c (c) (va_up I (6 + j) (nI (yMen C N.1 (nI w)).length)) J (va_up Q (13 + j) f) N (A') U V (va_up (va_up X 5 (upd (X 5) j (nI (yMen C N.1 (nI w)).length))) 6 f2) (S') t)) ?_ e3 (st_mk (iv_row iv hj (.inr ⟨(yMen C N.1 (nI w)).length, by omega, rfl, rfl, fun i hi => ?_⟩) h3) t1 t2)
  · simp only [E_X5_up_0, mo_0, mg_0_0, mg_0_1, mg_0_2, mg_0_3, mg_0_4, mg_0_5, mg_0_6, mg_0_7, mg_0_8, mg_0_9, mg_0_10, mg_0_11, if_true, k_rowAt, e, i01, if_false, zcQ_ref, nI_clamp (show j < 2 ^ 31 by omega), k_when, g, zcI_some, (hC ..).2.2.1, Option.bind_some, m0, mo_14, a_copy, zcV_some, em, mo_r hj, wr_renew hj (show (yMen C N.1 (nI w)).length ≤ 60 by omega)]
    exact e1
  · have := h1 i hi
    rw [Nat.zero_add] at this
    exact this.trans (h2 i hi).symm
end UPC
