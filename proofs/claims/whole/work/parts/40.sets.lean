/-! SETS of men as bits; how many there are; what the calls tell that ask for nothing else -/
/-- how many bits (the JDK's way) -/
def yBc (i1 : Int32) : Int32 := ((((((((i1 - (((i1.toUInt32 >>> ((1 : Int32).toUInt32 &&& Int32.toUInt32 31)).toInt32) &&& (1431655765 : Int32))) &&& (858993459 : Int32)) + ((((i1 - (((i1.toUInt32 >>> ((1 : Int32).toUInt32 &&& Int32.toUInt32 31)).toInt32) &&& (1431655765 : Int32))).toUInt32 >>> ((2 : Int32).toUInt32 &&& Int32.toUInt32 31)).toInt32) &&& (858993459 : Int32))) + (((((i1 - (((i1.toUInt32 >>> ((1 : Int32).toUInt32 &&& Int32.toUInt32 31)).toInt32) &&& (1431655765 : Int32))) &&& (858993459 : Int32)) + ((((i1 - (((i1.toUInt32 >>> ((1 : Int32).toUInt32 &&& Int32.toUInt32 31)).toInt32) &&& (1431655765 : Int32))).toUInt32 >>> ((2 : Int32).toUInt32 &&& Int32.toUInt32 31)).toInt32) &&& (858993459 : Int32))).toUInt32 >>> ((4 : Int32).toUInt32 &&& Int32.toUInt32 31)).toInt32)) &&& (252645135 : Int32)) + (((((((i1 - (((i1.toUInt32 >>> ((1 : Int32).toUInt32 &&& Int32.toUInt32 31)).toInt32) &&& (1431655765 : Int32))) &&& (858993459 : Int32)) + ((((i1 - (((i1.toUInt32 >>> ((1 : Int32).toUInt32 &&& Int32.toUInt32 31)).toInt32) &&& (1431655765 : Int32))).toUInt32 >>> ((2 : Int32).toUInt32 &&& Int32.toUInt32 31)).toInt32) &&& (858993459 : Int32))) + (((((i1 - (((i1.toUInt32 >>> ((1 : Int32).toUInt32 &&& Int32.toUInt32 31)).toInt32) &&& (1431655765 : Int32))) &&& (858993459 : Int32)) + ((((i1 - (((i1.toUInt32 >>> ((1 : Int32).toUInt32 &&& Int32.toUInt32 31)).toInt32) &&& (1431655765 : Int32))).toUInt32 >>> ((2 : Int32).toUInt32 &&& Int32.toUInt32 31)).toInt32) &&& (858993459 : Int32))).toUInt32 >>> ((4 : Int32).toUInt32 &&& Int32.toUInt32 31)).toInt32)) &&& (252645135 : Int32)).toUInt32 >>> ((8 : Int32).toUInt32 &&& Int32.toUInt32 31)).toInt32)) + ((((((((i1 - (((i1.toUInt32 >>> ((1 : Int32).toUInt32 &&& Int32.toUInt32 31)).toInt32) &&& (1431655765 : Int32))) &&& (858993459 : Int32)) + ((((i1 - (((i1.toUInt32 >>> ((1 : Int32).toUInt32 &&& Int32.toUInt32 31)).toInt32) &&& (1431655765 : Int32))).toUInt32 >>> ((2 : Int32).toUInt32 &&& Int32.toUInt32 31)).toInt32) &&& (858993459 : Int32))) + (((((i1 - (((i1.toUInt32 >>> ((1 : Int32).toUInt32 &&& Int32.toUInt32 31)).toInt32) &&& (1431655765 : Int32))) &&& (858993459 : Int32)) + ((((i1 - (((i1.toUInt32 >>> ((1 : Int32).toUInt32 &&& Int32.toUInt32 31)).toInt32) &&& (1431655765 : Int32))).toUInt32 >>> ((2 : Int32).toUInt32 &&& Int32.toUInt32 31)).toInt32) &&& (858993459 : Int32))).toUInt32 >>> ((4 : Int32).toUInt32 &&& Int32.toUInt32 31)).toInt32)) &&& (252645135 : Int32)) + (((((((i1 - (((i1.toUInt32 >>> ((1 : Int32).toUInt32 &&& Int32.toUInt32 31)).toInt32) &&& (1431655765 : Int32))) &&& (858993459 : Int32)) + ((((i1 - (((i1.toUInt32 >>> ((1 : Int32).toUInt32 &&& Int32.toUInt32 31)).toInt32) &&& (1431655765 : Int32))).toUInt32 >>> ((2 : Int32).toUInt32 &&& Int32.toUInt32 31)).toInt32) &&& (858993459 : Int32))) + (((((i1 - (((i1.toUInt32 >>> ((1 : Int32).toUInt32 &&& Int32.toUInt32 31)).toInt32) &&& (1431655765 : Int32))) &&& (858993459 : Int32)) + ((((i1 - (((i1.toUInt32 >>> ((1 : Int32).toUInt32 &&& Int32.toUInt32 31)).toInt32) &&& (1431655765 : Int32))).toUInt32 >>> ((2 : Int32).toUInt32 &&& Int32.toUInt32 31)).toInt32) &&& (858993459 : Int32))).toUInt32 >>> ((4 : Int32).toUInt32 &&& Int32.toUInt32 31)).toInt32)) &&& (252645135 : Int32)).toUInt32 >>> ((8 : Int32).toUInt32 &&& Int32.toUInt32 31)).toInt32)).toUInt32 >>> ((16 : Int32).toUInt32 &&& Int32.toUInt32 31)).toInt32)) &&& (63 : Int32))
theorem j_count (r : zE) (h : zH) (i : Int32) : zev r i_J6_bitCount_0f7a4 0 [some (.int i)] [] h = some (some (.int (yBc i)), h) := E_J6_bitCount_0f7a4_0 r h i
def ySt (p : Nat → Bool) (n : Nat) : Int32 := zfd (fun (a : Int32) k => a ||| (if p k then (1 : Int32) <<< (nI k &&& 31) else 0)) 0 n 0
def yCt (p : Nat → Bool) (n : Nat) : Int32 := zfd (fun (a : Int32) k => if p k then a + 1 else a) 0 n 0
/-- how many bits (the reference's way) -/
def yBr (s : Int32) : Int32 := zfd (fun (a : Int32) k => a + ((s >>> (nI k &&& 31)) &&& 1)) 0 6 0
theorem ySt_6 (p : Nat → Bool) {n : Nat} (h : n ≤ 6) : ySt p n = ySt (fun k => p k && decide (k < n)) 6 := by
  match n, h with
  | 0, _ => simp [ySt, zfd]
  | 1, _ => simp [ySt, zfd]
  | 2, _ => simp [ySt, zfd]
  | 3, _ => simp [ySt, zfd]
  | 4, _ => simp [ySt, zfd]
  | 5, _ => simp [ySt, zfd]
  | 6, _ => simp [ySt, zfd]
  | n + 7, h => exact absurd h (by omega)
theorem yCt_6 (p : Nat → Bool) {n : Nat} (h : n ≤ 6) : yCt p n = yCt (fun k => p k && decide (k < n)) 6 := by
  match n, h with
  | 0, _ => simp [yCt, zfd]
  | 1, _ => simp [yCt, zfd]
  | 2, _ => simp [yCt, zfd]
  | 3, _ => simp [yCt, zfd]
  | 4, _ => simp [yCt, zfd]
  | 5, _ => simp [yCt, zfd]
  | 6, _ => simp [yCt, zfd]
  | n + 7, h => exact absurd h (by omega)
def zs6 (a b c d e f : Bool) : Int32 := ySt (fun k => match k with | 0 => a | 1 => b | 2 => c | 3 => d | 4 => e | _ => f) 6
theorem zs6_eq (p : Nat → Bool) : ySt p 6 = zs6 (p 0) (p 1) (p 2) (p 3) (p 4) (p 5) := rfl
def zc6 (a b c d e f : Bool) : Int32 := yCt (fun k => match k with | 0 => a | 1 => b | 2 => c | 3 => d | 4 => e | _ => f) 6
theorem zc6_eq (p : Nat → Bool) : yCt p 6 = zc6 (p 0) (p 1) (p 2) (p 3) (p 4) (p 5) := rfl
theorem zb6 : ∀ a b c d e f : Bool, yBc (zs6 a b c d e f) = zc6 a b c d e f ∧ yBr (zs6 a b c d e f) = zc6 a b c d e f := by decide +kernel
theorem za6 : ∀ a b c d e f a' b' c' d' e' f' : Bool, zs6 a b c d e f &&& zs6 a' b' c' d' e' f' = zs6 (a && a') (b && b') (c && c') (d && d') (e && e') (f && f') := by decide +kernel
theorem zx6 : ∀ a b c d e f : Bool, zs6 a b c d e f ^^^ -1 = zs6 (!a) (!b) (!c) (!d) (!e) (!f) ||| -64 := by decide +kernel
theorem zh6 : ∀ a b c d e f : Bool, zs6 a b c d e f &&& -64 = 0 := by decide +kernel
theorem zan6 : ∀ a b c d e f a' b' c' d' e' f' : Bool, zs6 a b c d e f &&& (zs6 a' b' c' d' e' f' ^^^ -1) = zs6 (a && !a') (b && !b') (c && !c') (d && !d') (e && !e') (f && !f') := by decide +kernel
theorem yBc_st (p : Nat → Bool) {n : Nat} (h : n ≤ 6) : yBc (ySt p n) = yCt p n := by rw [ySt_6 p h, zs6_eq, (zb6 ..).1, ← zc6_eq (fun k => p k && decide (k < n)), ← yCt_6 p h]
theorem yBr_st (p : Nat → Bool) {n : Nat} (h : n ≤ 6) : yBr (ySt p n) = yCt p n := by rw [ySt_6 p h, zs6_eq, (zb6 ..).2, ← zc6_eq (fun k => p k && decide (k < n)), ← yCt_6 p h]
theorem yBc_and (p q : Nat → Bool) {n : Nat} (h : n ≤ 6) : yBc (ySt p n &&& ySt q n) = yCt (fun k => p k && q k) n := by
  have e : ∀ a b c : Bool, (a && c && (b && c)) = (a && b && c) := by decide
  rw [ySt_6 p h, ySt_6 q h, zs6_eq, zs6_eq, za6, (zb6 ..).1]
  simp only [e]
  rw [← zc6_eq (fun k => p k && q k && decide (k < n)), ← yCt_6 (fun k => p k && q k) h]
theorem yBc_not (p q : Nat → Bool) {n : Nat} (h : n ≤ 6) : yBc (ySt p n &&& (ySt q n ^^^ -1)) = yCt (fun k => p k && !q k) n := by
  have e : ∀ a b c : Bool, (a && c && !(b && c)) = (a && !b && c) := by decide
  rw [ySt_6 p h, ySt_6 q h, zs6_eq, zs6_eq, zan6, (zb6 ..).1]
  simp only [e]
  rw [← zc6_eq (fun k => p k && !q k && decide (k < n)), ← yCt_6 (fun k => p k && !q k) h]
section SETS
variable {r : zE} {c0 c1 c2 : Nat} {I : Nat → Int32} {J : Nat → Int64} {Q : Nat → Nat → Int32} {N A : zBr} {U : Nat → Int32} {V : Nat → Int64} {X : Nat → Nat → Int32} {S : zSs} {t : zH} {C : zCs} {c n : Nat}
theorem i0or (a : Int32) : a ||| 0 = a := by simp
theorem sBits_st (C : zCs) (kind : Int32) : sBits C kind = ySt (fun k => !decide (sOf C k kind = 0)) C.2.1 := zfd_congr fun s k _ _ => by
  by_cases e : sOf C k kind = 0
  · simp [e]
  · simp [e]
theorem sBe_st (C : zCs) (H : zA) (m : Nat) (w : Int32) : sBe C H m w = ySt (fun k => !decide (sBes C H k m w = 0)) C.2.1 := zfd_congr fun s k _ _ => by
  by_cases e : sBes C H k m w = 0
  · simp [e]
  · simp [e]
theorem sTall_ct (C : zCs) : sTall C = yCt (fun k => !decide (sOf C k 1 = 0)) C.2.1 := zfd_congr fun s k _ _ => by
  by_cases e : sOf C k 1 = 0
  · simp [e]
  · simp [e]
theorem sOf_0 {C : zCs} {k : Nat} {i : Int32} (hi : ¬ i = 1) : sOf C k i = 0 ↔ ¬ C.2.2.2.1 k = i := by
  unfold sOf
  by_cases e : C.2.2.2.1 k = i
  · rw [if_pos e]; exact ⟨fun q => absurd q (by decide), fun q => absurd e q⟩
  · rw [if_neg e, if_neg hi]; exact ⟨fun _ => e, fun _ => rfl⟩
theorem sKin_n (C : zCs) (H : zA) (m : Nat) {i : Int32} (hi : ¬ i = 1) : sKin C H m i 0 = yCt (fun k => !decide (sBes C H k m 0 = 0) && !!decide (sOf C k i = 0)) C.2.1 := zfd_congr fun s k _ _ => by
  by_cases e : sBes C H k m 0 = 0
  · simp [e]
  · by_cases e2 : C.2.2.2.1 k = i
    · have e3 : ¬ sOf C k i = 0 := fun q => (sOf_0 hi).mp q e2
      simp [e, e2, e3]
    · have e3 : sOf C k i = 0 := (sOf_0 hi).mpr e2
      simp [e, e2, e3]
theorem sKin_y (C : zCs) (H : zA) (m : Nat) {i : Int32} (hi : ¬ i = 1) : sKin C H m i 1 = yCt (fun k => !decide (sBes C H k m 0 = 0) && !decide (sOf C k i = 0)) C.2.1 := zfd_congr fun s k _ _ => by
  by_cases e : sBes C H k m 0 = 0
  · simp [e]
  · by_cases e2 : C.2.2.2.1 k = i
    · have e3 : ¬ sOf C k i = 0 := fun q => (sOf_0 hi).mp q e2
      simp [e, e2, e3]
    · have e3 : sOf C k i = 0 := (sOf_0 hi).mpr e2
      simp [e, e2, e3]
theorem m_bits (s : Int32) : zev r i_X6_bits 0 [some (.int s), none, none] [] (zmk r c0 c1 c2 I J Q N A U V X S t) = some (some (.int (yBr s)), zmk r c0 c1 c2 I J Q N A U V X S t) := by
  rw [E_X6_bits_0]
  refine zloop (fun j (a : Int32) => zev r i_X6_bits 4 [some (.int s), some (.int a), some (.int (nI j))] [] (zmk r c0 c1 c2 I J Q N A U V X S t)) (fun a => some (some (.int a), zmk r c0 c1 c2 I J Q N A U V X S t)) _ 6 (fun j a hj => ?_) (fun a => ?_) 0
  · refine (E_X6_bits_4 ..).trans ?_
    simp only [if_pos (show nI j < 6 from nI_lt (b := 6) hj (by decide)), nI_1]
  · refine (E_X6_bits_4 ..).trans ?_
    simp only [if_neg (show ¬ nI 6 < 6 by decide)]
theorem lk_mark (E : zEk r) (a b : Int32) {h : zH} (st : zSt r n h) : zBoth r n n (zev r i_X5_mark 0 [some (.ref (r.1 + 0)), some (.int a), some (.int b), none] []) (zev r i_X6_mark 0 [some (.ref (r.1 + 49)), some (.int a), some (.int b)] []) h := by
  obtain ⟨C, c, c2, I, J, Q, N, A, U, V, X, S, t, rfl, iv, t1, t2⟩ := st
  obtain ⟨k, hC, mv, _, _, _, no, -⟩ := id iv
  have k2 := k.2.1
  rcases zhk_cases C.2.1 (by omega) a with e | ⟨e, m, hm, rfl⟩
  · refine both (v := (-1)) (h1 := (zmk r c c c2 I J Q N A U V X S t)) (h2 := (zmk r c c c2 I J Q N A U V X S t)) ?_ ?_ (st_mk iv t1 t2)
    · simp only [E_X5_mark_0, mo_0, mg_0_0, mg_0_1, mg_0_2, mg_0_3, mg_0_4, mg_0_5, mg_0_6, mg_0_7, mg_0_8, mg_0_9, mg_0_10, mg_0_11, Option.bind_some, (hC ..).1, if_true, cr_man (hC ..), e, zcI_some]
    · simp only [E_X6_mark_0, mo_49, mg_49_0, mg_49_1, mg_49_2, mg_49_3, mg_49_4, mg_49_5, mg_49_6, mg_49_7, mg_49_8, mg_49_9, mg_49_10, mg_49_11, mg_49_12, mg_49_13, mg_49_14, mg_49_15, mg_49_16, mg_49_17, mg_49_18, mg_49_19, mg_49_20, mg_49_21, mg_49_22, mg_49_23, mg_49_24, mg_49_25, if_true, m_man mv k, e, zcI_some]
  by_cases b1 : b < 1
  · refine both (v := (-1)) (h1 := (zmk r c c c2 I J Q N A U V X S t)) (h2 := (zmk r c c c2 I J Q N A U V X S t)) ?_ ?_ (st_mk iv t1 t2)
    · simp only [E_X5_mark_0, mo_0, mg_0_0, mg_0_1, mg_0_2, mg_0_3, mg_0_4, mg_0_5, mg_0_6, mg_0_7, mg_0_8, mg_0_9, mg_0_10, mg_0_11, Option.bind_some, (hC ..).1, if_true, cr_man (hC ..), e, i01, if_false, b1, zcI_some]
    · simp only [E_X6_mark_0, mo_49, mg_49_0, mg_49_1, mg_49_2, mg_49_3, mg_49_4, mg_49_5, mg_49_6, mg_49_7, mg_49_8, mg_49_9, mg_49_10, mg_49_11, mg_49_12, mg_49_13, mg_49_14, mg_49_15, mg_49_16, mg_49_17, mg_49_18, mg_49_19, mg_49_20, mg_49_21, mg_49_22, mg_49_23, mg_49_24, mg_49_25, if_true, m_man mv k, e, i01, if_false, m_in r _ b 1 5 (l := 1) (k := 5) rfl rfl, zbw, b1, zcI_some]
  by_cases b2 : 5 < b
  · refine both (v := (-1)) (h1 := (zmk r c c c2 I J Q N A U V X S t)) (h2 := (zmk r c c c2 I J Q N A U V X S t)) ?_ ?_ (st_mk iv t1 t2)
    · simp only [E_X5_mark_0, mo_0, mg_0_0, mg_0_1, mg_0_2, mg_0_3, mg_0_4, mg_0_5, mg_0_6, mg_0_7, mg_0_8, mg_0_9, mg_0_10, mg_0_11, Option.bind_some, (hC ..).1, if_true, cr_man (hC ..), e, i01, if_false, b1, b2, zcI_some]
    · simp only [E_X6_mark_0, mo_49, mg_49_0, mg_49_1, mg_49_2, mg_49_3, mg_49_4, mg_49_5, mg_49_6, mg_49_7, mg_49_8, mg_49_9, mg_49_10, mg_49_11, mg_49_12, mg_49_13, mg_49_14, mg_49_15, mg_49_16, mg_49_17, mg_49_18, mg_49_19, mg_49_20, mg_49_21, mg_49_22, mg_49_23, mg_49_24, mg_49_25, if_true, m_man mv k, e, i01, if_false, m_in r _ b 1 5 (l := 1) (k := 5) rfl rfl, zbw, b1, b2, zcI_some]
  by_cases o : sOf C m b = 0
  · refine both (v := (-3)) (h1 := (zmk r c c c2 (va_up I 1 (nI 3)) J (va_up Q 0 (upd (Q 0) 3 (Q 0 3 + 1))) N A U V X S t)) (h2 := (zmk r c c c2 (va_up I 1 (nI 3)) J (va_up Q 0 (upd (Q 0) 3 (Q 0 3 + 1))) N A (va_up U 3 (nI 3)) V (va_up X 9 (upd (X 9) 3 (X 9 3 + 1))) S t)) ?_ ?_ (st_mk (iv_found 3 iv (by decide) (by decide)) t1 t2)
    · simp only [E_X5_mark_0, mo_0, mg_0_0, mg_0_1, mg_0_2, mg_0_3, mg_0_4, mg_0_5, mg_0_6, mg_0_7, mg_0_8, mg_0_9, mg_0_10, mg_0_11, Option.bind_some, (hC ..).1, if_true, cr_man (hC ..), e, i01, if_false, b1, b2, cr_of (hC ..) hm, o, zcI_some, k_f3]
    · simp only [E_X6_mark_0, mo_49, mg_49_0, mg_49_1, mg_49_2, mg_49_3, mg_49_4, mg_49_5, mg_49_6, mg_49_7, mg_49_8, mg_49_9, mg_49_10, mg_49_11, mg_49_12, mg_49_13, mg_49_14, mg_49_15, mg_49_16, mg_49_17, mg_49_18, mg_49_19, mg_49_20, mg_49_21, mg_49_22, mg_49_23, mg_49_24, mg_49_25, if_true, m_man mv k, e, i01, if_false, m_in r _ b 1 5 (l := 1) (k := 5) rfl rfl, zbw, b1, b2, m_of mv k hm, o, zcI_some, m_f3]
  have nb := b_neigh (nBx (c0 := c) (c2 := c2) (I := I) (J := J) (Q := Q) (A := A) (U := U) (V := V) (X := X) (S := S) hC) k (B := N) no.1 hm 0
  have bc : ∀ q, sBe C (zNw X S).1 m q = sBe C N.1 m q := fun q => sBe_c hm (now_h k no) q
  have c1 : yBc (sBe C N.1 m 0) = yBr (sBe C N.1 m 0) := by rw [sBe_st, yBc_st _ k2, yBr_st _ k2]
  have c2' : yBc (sBe C N.1 m 0 &&& (sBits C 3 ^^^ -1)) = sKin C N.1 m 3 0 := by rw [sBe_st, sBits_st, yBc_not _ _ k2, sKin_n C N.1 m (by decide)]
  have c3 : yBc (sBe C N.1 m 0 &&& sBits C 2) = sKin C N.1 m 2 1 := by rw [sBe_st, sBits_st, yBc_and _ _ k2, sKin_y C N.1 m (by decide)]
  have c4 : yBc (sBits C 1) = sTall C := by rw [sBits_st, yBc_st _ k2, sTall_ct]
  refine both (v := (if b = 1 then yBc (sBe C N.1 m 0) else if b = 2 then yBc (sBe C N.1 m 0 &&& (sBits C 3 ^^^ -1)) else if b = 3 then yBc (sBe C N.1 m 0 &&& sBits C 2) else if b = 4 then yBc (sBits C 1) - 1 else sWo C N.1 N.2.2.1 m 0 (-9) / 2)) (h1 := (zmk r c c c2 I J Q N A U V X S t)) (h2 := (zmk r c c c2 I J Q N A U V X (zNw X S) t)) ?_ ?_ (st_mk iv t1 t2)
  · simp only [E_X5_mark_0, mo_0, mg_0_0, mg_0_1, mg_0_2, mg_0_3, mg_0_4, mg_0_5, mg_0_6, mg_0_7, mg_0_8, mg_0_9, mg_0_10, mg_0_11, mo_9, Option.bind_some, (hC ..).1, if_true, cr_man (hC ..), e, i01, if_false, b1, b2, cr_of (hC ..) hm, o, zcI_some, nb, j_count, cr_bits (hC ..) k, b_wak (nBx hC) k E no.2.1 no.1 hm, show ¬ (2 : Int32) = 0 by decide]
    repeat' split
    all_goals rfl
  · simp only [E_X6_mark_0, mo_49, mg_49_0, mg_49_1, mg_49_2, mg_49_3, mg_49_4, mg_49_5, mg_49_6, mg_49_7, mg_49_8, mg_49_9, mg_49_10, mg_49_11, mg_49_12, mg_49_13, mg_49_14, mg_49_15, mg_49_16, mg_49_17, mg_49_18, mg_49_19, mg_49_20, mg_49_21, mg_49_22, mg_49_23, mg_49_24, mg_49_25, if_true, m_man mv k, e, i01, if_false, m_in r _ b 1 5 (l := 1) (k := 5) rfl rfl, zbw, b1, b2, m_of mv k hm, o, zcI_some, m_now, zcV_some, m_beside mv k hm, m_bits, m_kin mv k hm, m_tall mv k, m_woken mv k hm (now_v k no m hm), bc, sKin_c hm (now_h k no), sWo_c hm (now_h k no) (now_l k no), c1, c2', c3, c4, show ¬ (2 : Int32) = 0 by decide]
    repeat' split
    all_goals rfl
theorem lk_asked {h : zH} (st : zSt r n h) : zBoth r n n (zev r i_X5_asked 0 [some (.ref (r.1 + 0))] []) (zev r i_X6_asked 0 [some (.ref (r.1 + 49))] []) h := by
  obtain ⟨C, c, c2, I, J, Q, N, A, U, V, X, S, t, rfl, iv, t1, t2⟩ := st
  refine both (v := (I 0)) (h1 := (zmk r c c c2 I J Q N A U V X S t)) (h2 := (zmk r c c c2 I J Q N A U V X S t)) ?_ ?_ (st_mk iv t1 t2)
  · simp only [E_X5_asked_0, mo_0, mg_0_0, mg_0_1, mg_0_2, mg_0_3, mg_0_4, mg_0_5, mg_0_6, mg_0_7, mg_0_8, mg_0_9, mg_0_10, mg_0_11, Option.bind_some]
  · simp only [E_X6_asked_0, mo_49, mg_49_0, mg_49_1, mg_49_2, mg_49_3, mg_49_4, mg_49_5, mg_49_6, mg_49_7, mg_49_8, mg_49_9, mg_49_10, mg_49_11, mg_49_12, mg_49_13, mg_49_14, mg_49_15, mg_49_16, mg_49_17, mg_49_18, mg_49_19, mg_49_20, mg_49_21, mg_49_22, mg_49_23, mg_49_24, mg_49_25, Option.bind_some, iv.2.2.2.1.1]
theorem lk_upper {h : zH} (st : zSt r n h) : zBothL r n n (zev r i_X5_upper 0 [some (.ref (r.1 + 0))] []) (zev r i_X6_upper 0 [some (.ref (r.1 + 49))] []) h := by
  obtain ⟨C, c, c2, I, J, Q, N, A, U, V, X, S, t, rfl, iv, t1, t2⟩ := st
  refine bothL (v := (J 0)) (h1 := (zmk r c c c2 I J Q N A U V X S t)) (h2 := (zmk r c c c2 I J Q N A U V X S t)) ?_ ?_ (st_mk iv t1 t2)
  · simp only [E_X5_upper_0, mo_0, mg_0_0, mg_0_1, mg_0_2, mg_0_3, mg_0_4, mg_0_5, mg_0_6, mg_0_7, mg_0_8, mg_0_9, mg_0_10, mg_0_11, Option.bind_some]
  · simp only [E_X6_upper_0, mo_49, mg_49_0, mg_49_1, mg_49_2, mg_49_3, mg_49_4, mg_49_5, mg_49_6, mg_49_7, mg_49_8, mg_49_9, mg_49_10, mg_49_11, mg_49_12, mg_49_13, mg_49_14, mg_49_15, mg_49_16, mg_49_17, mg_49_18, mg_49_19, mg_49_20, mg_49_21, mg_49_22, mg_49_23, mg_49_24, mg_49_25, Option.bind_some, iv.2.2.2.1.2.2.1]
theorem lk_lower {h : zH} (st : zSt r n h) : zBothL r n n (zev r i_X5_lower 0 [some (.ref (r.1 + 0))] []) (zev r i_X6_lower 0 [some (.ref (r.1 + 49))] []) h := by
  obtain ⟨C, c, c2, I, J, Q, N, A, U, V, X, S, t, rfl, iv, t1, t2⟩ := st
  refine bothL (v := (J 1)) (h1 := (zmk r c c c2 I J Q N A U V X S t)) (h2 := (zmk r c c c2 I J Q N A U V X S t)) ?_ ?_ (st_mk iv t1 t2)
  · simp only [E_X5_lower_0, mo_0, mg_0_0, mg_0_1, mg_0_2, mg_0_3, mg_0_4, mg_0_5, mg_0_6, mg_0_7, mg_0_8, mg_0_9, mg_0_10, mg_0_11, Option.bind_some]
  · simp only [E_X6_lower_0, mo_49, mg_49_0, mg_49_1, mg_49_2, mg_49_3, mg_49_4, mg_49_5, mg_49_6, mg_49_7, mg_49_8, mg_49_9, mg_49_10, mg_49_11, mg_49_12, mg_49_13, mg_49_14, mg_49_15, mg_49_16, mg_49_17, mg_49_18, mg_49_19, mg_49_20, mg_49_21, mg_49_22, mg_49_23, mg_49_24, mg_49_25, Option.bind_some, iv.2.2.2.1.2.2.2.1]
theorem lk_finding {h : zH} (st : zSt r n h) : zBoth r n n (zev r i_X5_finding 0 [some (.ref (r.1 + 0))] []) (zev r i_X6_finding 0 [some (.ref (r.1 + 49))] []) h := by
  obtain ⟨C, c, c2, I, J, Q, N, A, U, V, X, S, t, rfl, iv, t1, t2⟩ := st
  refine both (v := (I 1)) (h1 := (zmk r c c c2 I J Q N A U V X S t)) (h2 := (zmk r c c c2 I J Q N A U V X S t)) ?_ ?_ (st_mk iv t1 t2)
  · simp only [E_X5_finding_0, mo_0, mg_0_0, mg_0_1, mg_0_2, mg_0_3, mg_0_4, mg_0_5, mg_0_6, mg_0_7, mg_0_8, mg_0_9, mg_0_10, mg_0_11, Option.bind_some]
  · simp only [E_X6_finding_0, mo_49, mg_49_0, mg_49_1, mg_49_2, mg_49_3, mg_49_4, mg_49_5, mg_49_6, mg_49_7, mg_49_8, mg_49_9, mg_49_10, mg_49_11, mg_49_12, mg_49_13, mg_49_14, mg_49_15, mg_49_16, mg_49_17, mg_49_18, mg_49_19, mg_49_20, mg_49_21, mg_49_22, mg_49_23, mg_49_24, mg_49_25, Option.bind_some, iv.2.2.2.1.2.1]
theorem lk_findings (a : Int32) {h : zH} (st : zSt r n h) : zBoth r n n (zev r i_X5_findings 0 [some (.ref (r.1 + 0)), some (.int a)] []) (zev r i_X6_findings 0 [some (.ref (r.1 + 49)), some (.int a)] []) h := by
  obtain ⟨C, c, c2, I, J, Q, N, A, U, V, X, S, t, rfl, iv, t1, t2⟩ := st
  by_cases a1 : a < 1
  · refine both (v := (-1)) (h1 := (zmk r c c c2 I J Q N A U V X S t)) (h2 := (zmk r c c c2 I J Q N A U V X S t)) ?_ ?_ (st_mk iv t1 t2)
    · simp only [E_X5_findings_0, a1, if_true]
    · simp only [E_X6_findings_0, m_in r _ a 1 5 (l := 1) (k := 5) rfl rfl, zbw, a1, if_true, zcI_some]
  by_cases a2 : 5 < a
  · refine both (v := (-1)) (h1 := (zmk r c c c2 I J Q N A U V X S t)) (h2 := (zmk r c c c2 I J Q N A U V X S t)) ?_ ?_ (st_mk iv t1 t2)
    · simp only [E_X5_findings_0, a1, a2, if_true, if_false]
    · simp only [E_X6_findings_0, m_in r _ a 1 5 (l := 1) (k := 5) rfl rfl, zbw, a1, a2, if_true, if_false, zcI_some]
  obtain ⟨f, hf, rfl⟩ := nI_of2 (M := 5) (n := 5) (by decide) (x := a) (fun q => a1 (Int32.lt_of_lt_of_le q (by decide))) (Int32.not_lt.mp a2)
  have f1 : 1 ≤ f := by
    refine Nat.le_of_not_lt fun q => a1 ?_
    have : f = 0 := by omega
    subst this; decide
  refine both (v := (Q 0 f)) (h1 := (zmk r c c c2 I J Q N A U V X S t)) (h2 := (zmk r c c c2 I J Q N A U V X S t)) ?_ ?_ (st_mk iv t1 t2)
  · simp only [E_X5_findings_0, a1, a2, if_false, mo_0, mg_0_0, mg_0_1, mg_0_2, mg_0_3, mg_0_4, mg_0_5, mg_0_6, mg_0_7, mg_0_8, mg_0_9, mg_0_10, mg_0_11, ma_22 (show f < 6 by omega), Option.bind_some]
  · simp only [E_X6_findings_0, m_in r _ (nI f) 1 5 (l := 1) (k := 5) rfl rfl, zbw, a1, a2, if_false, i01, zcI_some, mo_49, mg_49_0, mg_49_1, mg_49_2, mg_49_3, mg_49_4, mg_49_5, mg_49_6, mg_49_7, mg_49_8, mg_49_9, mg_49_10, mg_49_11, mg_49_12, mg_49_13, mg_49_14, mg_49_15, mg_49_16, mg_49_17, mg_49_18, mg_49_19, mg_49_20, mg_49_21, mg_49_22, mg_49_23, mg_49_24, mg_49_25, ma_59 (show f < 6 by omega), Option.bind_some, iv.2.2.2.1.2.2.2.2 f f1 (by omega)]
end SETS
