/-! SETS, COUNTS, THE DIGEST -/
def yBc (i1 : Int32) : Int32 := ((((((((i1 - (((i1.toUInt32 >>> ((1 : Int32).toUInt32 &&& Int32.toUInt32 31)).toInt32) &&& (1431655765 : Int32))) &&& (858993459 : Int32)) + ((((i1 - (((i1.toUInt32 >>> ((1 : Int32).toUInt32 &&& Int32.toUInt32 31)).toInt32) &&& (1431655765 : Int32))).toUInt32 >>> ((2 : Int32).toUInt32 &&& Int32.toUInt32 31)).toInt32) &&& (858993459 : Int32))) + (((((i1 - (((i1.toUInt32 >>> ((1 : Int32).toUInt32 &&& Int32.toUInt32 31)).toInt32) &&& (1431655765 : Int32))) &&& (858993459 : Int32)) + ((((i1 - (((i1.toUInt32 >>> ((1 : Int32).toUInt32 &&& Int32.toUInt32 31)).toInt32) &&& (1431655765 : Int32))).toUInt32 >>> ((2 : Int32).toUInt32 &&& Int32.toUInt32 31)).toInt32) &&& (858993459 : Int32))).toUInt32 >>> ((4 : Int32).toUInt32 &&& Int32.toUInt32 31)).toInt32)) &&& (252645135 : Int32)) + (((((((i1 - (((i1.toUInt32 >>> ((1 : Int32).toUInt32 &&& Int32.toUInt32 31)).toInt32) &&& (1431655765 : Int32))) &&& (858993459 : Int32)) + ((((i1 - (((i1.toUInt32 >>> ((1 : Int32).toUInt32 &&& Int32.toUInt32 31)).toInt32) &&& (1431655765 : Int32))).toUInt32 >>> ((2 : Int32).toUInt32 &&& Int32.toUInt32 31)).toInt32) &&& (858993459 : Int32))) + (((((i1 - (((i1.toUInt32 >>> ((1 : Int32).toUInt32 &&& Int32.toUInt32 31)).toInt32) &&& (1431655765 : Int32))) &&& (858993459 : Int32)) + ((((i1 - (((i1.toUInt32 >>> ((1 : Int32).toUInt32 &&& Int32.toUInt32 31)).toInt32) &&& (1431655765 : Int32))).toUInt32 >>> ((2 : Int32).toUInt32 &&& Int32.toUInt32 31)).toInt32) &&& (858993459 : Int32))).toUInt32 >>> ((4 : Int32).toUInt32 &&& Int32.toUInt32 31)).toInt32)) &&& (252645135 : Int32)).toUInt32 >>> ((8 : Int32).toUInt32 &&& Int32.toUInt32 31)).toInt32)) + ((((((((i1 - (((i1.toUInt32 >>> ((1 : Int32).toUInt32 &&& Int32.toUInt32 31)).toInt32) &&& (1431655765 : Int32))) &&& (858993459 : Int32)) + ((((i1 - (((i1.toUInt32 >>> ((1 : Int32).toUInt32 &&& Int32.toUInt32 31)).toInt32) &&& (1431655765 : Int32))).toUInt32 >>> ((2 : Int32).toUInt32 &&& Int32.toUInt32 31)).toInt32) &&& (858993459 : Int32))) + (((((i1 - (((i1.toUInt32 >>> ((1 : Int32).toUInt32 &&& Int32.toUInt32 31)).toInt32) &&& (1431655765 : Int32))) &&& (858993459 : Int32)) + ((((i1 - (((i1.toUInt32 >>> ((1 : Int32).toUInt32 &&& Int32.toUInt32 31)).toInt32) &&& (1431655765 : Int32))).toUInt32 >>> ((2 : Int32).toUInt32 &&& Int32.toUInt32 31)).toInt32) &&& (858993459 : Int32))).toUInt32 >>> ((4 : Int32).toUInt32 &&& Int32.toUInt32 31)).toInt32)) &&& (252645135 : Int32)) + (((((((i1 - (((i1.toUInt32 >>> ((1 : Int32).toUInt32 &&& Int32.toUInt32 31)).toInt32) &&& (1431655765 : Int32))) &&& (858993459 : Int32)) + ((((i1 - (((i1.toUInt32 >>> ((1 : Int32).toUInt32 &&& Int32.toUInt32 31)).toInt32) &&& (1431655765 : Int32))).toUInt32 >>> ((2 : Int32).toUInt32 &&& Int32.toUInt32 31)).toInt32) &&& (858993459 : Int32))) + (((((i1 - (((i1.toUInt32 >>> ((1 : Int32).toUInt32 &&& Int32.toUInt32 31)).toInt32) &&& (1431655765 : Int32))) &&& (858993459 : Int32)) + ((((i1 - (((i1.toUInt32 >>> ((1 : Int32).toUInt32 &&& Int32.toUInt32 31)).toInt32) &&& (1431655765 : Int32))).toUInt32 >>> ((2 : Int32).toUInt32 &&& Int32.toUInt32 31)).toInt32) &&& (858993459 : Int32))).toUInt32 >>> ((4 : Int32).toUInt32 &&& Int32.toUInt32 31)).toInt32)) &&& (252645135 : Int32)).toUInt32 >>> ((8 : Int32).toUInt32 &&& Int32.toUInt32 31)).toInt32)).toUInt32 >>> ((16 : Int32).toUInt32 &&& Int32.toUInt32 31)).toInt32)) &&& (63 : Int32))
theorem j_count (r : zE) (h : zH) (i : Int32) : zev r i_J6_bitCount_0f7a4 0 [some (.int i)] [] h = some (some (.int (yBc i)), h) := E_J6_bitCount_0f7a4_0 r h i
def ySt (p : Nat → Bool) (n : Nat) : Int32 := zfd (fun (a : Int32) k => a ||| (if p k then (1 : Int32) <<< (nI k &&& 31) else 0)) 0 n 0
def yCt (p : Nat → Bool) (n : Nat) : Int32 := zfd (fun (a : Int32) k => if p k then a + 1 else a) 0 n 0
/-- how many bits (the reference's way) -/
def yBr (s : Int32) : Int32 := zfd (fun (a : Int32) k => a + ((s >>> (nI k &&& 31)) &&& 1)) 0 6 0
theorem ySt_6 (p : Nat → Bool) {n : Nat} (h : n ≤ 6) : ySt p n = ySt (fun k => p k && decide (k < n)) 6 := by
  match n, h with
  | 0, _ => simp [ySt, zfd]
  | 1, _ => simp [ySt, zfd]
  | 2, _ => simp [ySt, zfd]
  | 3, _ => simp [ySt, zfd]
  | 4, _ => simp [ySt, zfd]
  | 5, _ => simp [ySt, zfd]
  | 6, _ => simp [ySt, zfd]
  | n + 7, h => exact absurd h (by omega)
theorem yCt_6 (p : Nat → Bool) {n : Nat} (h : n ≤ 6) : yCt p n = yCt (fun k => p k && decide (k < n)) 6 := by
  match n, h with
  | 0, _ => simp [yCt, zfd]
  | 1, _ => simp [yCt, zfd]
  | 2, _ => simp [yCt, zfd]
  | 3, _ => simp [yCt, zfd]
  | 4, _ => simp [yCt, zfd]
  | 5, _ => simp [yCt, zfd]
  | 6, _ => simp [yCt, zfd]
  | n + 7, h => exact absurd h (by omega)
def zs6 (a b c d e f : Bool) : Int32 := ySt (fun k => match k with | 0 => a | 1 => b | 2 => c | 3 => d | 4 => e | _ => f) 6
theorem zs6_eq (p : Nat → Bool) : ySt p 6 = zs6 (p 0) (p 1) (p 2) (p 3) (p 4) (p 5) := rfl
def zc6 (a b c d e f : Bool) : Int32 := yCt (fun k => match k with | 0 => a | 1 => b | 2 => c | 3 => d | 4 => e | _ => f) 6
theorem zc6_eq (p : Nat → Bool) : yCt p 6 = zc6 (p 0) (p 1) (p 2) (p 3) (p 4) (p 5) := rfl
theorem zb6 : ∀ a b c d e f : Bool, yBc (zs6 a b c d e f) = zc6 a b c d e f ∧ yBr (zs6 a b c d e f) = zc6 a b c d e f := by decide +kernel
theorem za6 : ∀ a b c d e f a' b' c' d' e' f' : Bool, zs6 a b c d e f &&& zs6 a' b' c' d' e' f' = zs6 (a && a') (b && b') (c && c') (d && d') (e && e') (f && f') := by decide +kernel
theorem zx6 : ∀ a b c d e f : Bool, zs6 a b c d e f ^^^ -1 = zs6 (!a) (!b) (!c) (!d) (!e) (!f) ||| -64 := by decide +kernel
theorem zh6 : ∀ a b c d e f : Bool, zs6 a b c d e f &&& -64 = 0 := by decide +kernel
theorem zan6 : ∀ a b c d e f a' b' c' d' e' f' : Bool, zs6 a b c d e f &&& (zs6 a' b' c' d' e' f' ^^^ -1) = zs6 (a && !a') (b && !b') (c && !c') (d && !d') (e && !e') (f && !f') := by decide +kernel
theorem yBc_st (p : Nat → Bool) {n : Nat} (h : n ≤ 6) : yBc (ySt p n) = yCt p n := by rw [ySt_6 p h, zs6_eq, (zb6 ..).1, ← zc6_eq (fun k => p k && decide (k < n)), ← yCt_6 p h]
theorem yBr_st (p : Nat → Bool) {n : Nat} (h : n ≤ 6) : yBr (ySt p n) = yCt p n := by rw [ySt_6 p h, zs6_eq, (zb6 ..).2, ← zc6_eq (fun k => p k && decide (k < n)), ← yCt_6 p h]
theorem yBc_and (p q : Nat → Bool) {n : Nat} (h : n ≤ 6) : yBc (ySt p n &&& ySt q n) = yCt (fun k => p k && q k) n := by
  have e : ∀ a b c : Bool, (a && c && (b && c)) = (a && b && c) := by decide
  rw [ySt_6 p h, ySt_6 q h, zs6_eq, zs6_eq, za6, (zb6 ..).1]
  simp only [e]
  rw [← zc6_eq (fun k => p k && q k && decide (k < n)), ← yCt_6 (fun k => p k && q k) h]
theorem yBc_not (p q : Nat → Bool) {n : Nat} (h : n ≤ 6) : yBc (ySt p n &&& (ySt q n ^^^ -1)) = yCt (fun k => p k && !q k) n := by
  have e : ∀ a b c : Bool, (a && c && !(b && c)) = (a && !b && c) := by decide
  rw [ySt_6 p h, ySt_6 q h, zs6_eq, zs6_eq, zan6, (zb6 ..).1]
  simp only [e]
  rw [← zc6_eq (fun k => p k && !q k && decide (k < n)), ← yCt_6 (fun k => p k && !q k) h]
section SETS
variable {C : zCs}
theorem i0or (a : Int32) : a ||| 0 = a := by simp
theorem sBits_st (C : zCs) (kind : Int32) : sBits C kind = ySt (fun k => !decide (sOf C k kind = 0)) C.2.1 := zfd_congr fun s k _ _ => by
  by_cases e : sOf C k kind = 0
  · simp [e]
  · simp [e]
theorem sBe_st (C : zCs) (H : zA) (m : Nat) (w : Int32) : sBe C H m w = ySt (fun k => !decide (sBes C H k m w = 0)) C.2.1 := zfd_congr fun s k _ _ => by
  by_cases e : sBes C H k m w = 0
  · simp [e]
  · simp [e]
theorem sTall_ct (C : zCs) : sTall C = yCt (fun k => !decide (sOf C k 1 = 0)) C.2.1 := zfd_congr fun s k _ _ => by
  by_cases e : sOf C k 1 = 0
  · simp [e]
  · simp [e]
end SETS
section COUNT
variable {r : zE} {c0 c1 c2 : Nat} {I : Nat → Int32} {J : Nat → Int64} {Q : Nat → Nat → Int32} {N A : zBr} {Ga Va : Nat → Int32} {t : zH} {C : zCs} {c n d : Nat}
def yTh (f : Nat → Int32) (n : Nat) : Int32 := zfd (fun (a : Int32) i => if f i = -1 then a else a + 1) 0 n 0
def yCn (C : zCs) (I : zA) (N : zBr) : Nat → Int32
  | 0 => nI C.2.1
  | 1 => nI C.1
  | 2 => I 2
  | 3 => sMany C N.1 0
  | 4 => sTired C N.2.2.2
  | 5 => sTall C
  | 6 => yTh (fun i => I (6 + i)) 6
  | 7 => yTh (fun i => I (12 + i)) 4
  | _ => yTh (fun i => I (3 + i)) 3
theorem k_rows : zev r i_X5_howManyThere 0 [some (.ref (r.1 + 1)), none, none] [] (zmk r c0 c1 c2 I J Q N A Ga Va t) = some (some (.int (yTh (fun i => I (6 + i)) 6)), zmk r c0 c1 c2 I J Q N A Ga Va t) := by
  rw [E_X5_howManyThere_0]
  refine zloop (fun j (a : Int32) => zev r i_X5_howManyThere 4 [some (.ref (r.1 + 1)), some (.int a), some (.int (nI j))] [] (zmk r c0 c1 c2 I J Q N A Ga Va t)) (fun a => some (some (.int a), zmk r c0 c1 c2 I J Q N A Ga Va t)) _ 6 (fun j a hj => ?_) (fun a => ?_) 0
  · refine (E_X5_howManyThere_4 ..).trans ?_
    simp only [mn_1, Option.bind_some, nI_of0, if_pos (nI_lt hj (show 6 < 2 ^ 31 by decide)), mq_1 hj, mo_r hj, if_true, wr_miss hj, zcI_some, nI_1]
    by_cases e : I (6 + j) = -1
    · simp only [e, if_true, i01, if_false]
    · simp only [e, if_true, if_false]
  · refine (E_X5_howManyThere_4 ..).trans ?_
    simp only [mn_1, Option.bind_some, nI_of0, if_neg (nI_nlt (Nat.le_refl 6) (show 6 < 2 ^ 31 by decide))]
theorem k_texts : zev r i_X5_howManyThere 0 [some (.ref (r.1 + 2)), none, none] [] (zmk r c0 c1 c2 I J Q N A Ga Va t) = some (some (.int (yTh (fun i => I (12 + i)) 4)), zmk r c0 c1 c2 I J Q N A Ga Va t) := by
  rw [E_X5_howManyThere_0]
  refine zloop (fun j (a : Int32) => zev r i_X5_howManyThere 4 [some (.ref (r.1 + 2)), some (.int a), some (.int (nI j))] [] (zmk r c0 c1 c2 I J Q N A Ga Va t)) (fun a => some (some (.int a), zmk r c0 c1 c2 I J Q N A Ga Va t)) _ 4 (fun j a hj => ?_) (fun a => ?_) 0
  · refine (E_X5_howManyThere_4 ..).trans ?_
    simp only [mn_2, Option.bind_some, nI_of0, if_pos (nI_lt hj (show 4 < 2 ^ 31 by decide)), mq_2 hj, mo_t hj, if_true, wt_miss hj, zcI_some, nI_1]
    by_cases e : I (12 + j) = -1
    · simp only [e, if_true, i01, if_false]
    · simp only [e, if_true, if_false]
  · refine (E_X5_howManyThere_4 ..).trans ?_
    simp only [mn_2, Option.bind_some, nI_of0, if_neg (nI_nlt (Nat.le_refl 4) (show 4 < 2 ^ 31 by decide))]
theorem k_keeps : zev r i_X5_howManyKept 0 [some (.ref (r.1 + 0)), none, none] [] (zmk r c0 c1 c2 I J Q N A Ga Va t) = some (some (.int (yTh (fun i => I (3 + i)) 3)), zmk r c0 c1 c2 I J Q N A Ga Va t) := by
  rw [E_X5_howManyKept_0]
  refine zloop (fun j (a : Int32) => zev r i_X5_howManyKept 4 [some (.ref (r.1 + 0)), some (.int a), some (.int (nI j))] [] (zmk r c0 c1 c2 I J Q N A Ga Va t)) (fun a => some (some (.int a), zmk r c0 c1 c2 I J Q N A Ga Va t)) _ 3 (fun j a hj => ?_) (fun a => ?_) 0
  · refine (E_X5_howManyKept_4 ..).trans ?_
    have miss : zev r i_X2_isMissing 0 [some (.ref (r.1 + 43 + 2 * j))] [] (zmk r c0 c1 c2 I J Q N A Ga Va t) = some (some (.int (if I (3 + j) = -1 then 1 else 0)), zmk r c0 c1 c2 I J Q N A Ga Va t) := by
      simp only [E_X2_isMissing_0, mgs_k hj, Option.bind_some]
      split <;> rfl
    simp only [mo_0, mg_0_0, mg_0_1, mg_0_2, mg_0_3, mg_0_4, mg_0_5, mg_0_6, mg_0_7, mg_0_8, mg_0_9, mg_0_10, mg_0_11, mn_21, Option.bind_some, nI_of0, if_pos (nI_lt hj (show 3 < 2 ^ 31 by decide)), mq_21 hj, mo_k hj, if_true, miss, zcI_some, nI_1]
    by_cases e : I (3 + j) = -1
    · simp only [e, if_true, i01, if_false]
    · simp only [e, if_true, if_false]
  · refine (E_X5_howManyKept_4 ..).trans ?_
    simp only [mo_0, mg_0_0, mg_0_1, mg_0_2, mg_0_3, mg_0_4, mg_0_5, mg_0_6, mg_0_7, mg_0_8, mg_0_9, mg_0_10, mg_0_11, mn_21, Option.bind_some, nI_of0, if_neg (nI_nlt (Nat.le_refl 3) (show 3 < 2 ^ 31 by decide))]
theorem k_counted (k : zCk C) (hC : zCt r t c C) {w : Nat} (hw : w < 9) : zev r i_X5_counted 0 [some (.ref (r.1 + 0)), some (.int (nI w))] [] (zmk r c c c2 I J Q N A Ga Va t) = some (some (.int (yCn C I N w)), (zmk r c c c2 I J Q N A Ga Va t)) := by
  have c4 : yBc (sBits C 1) = sTall C := by rw [sBits_st, yBc_st _ k.2.1, sTall_ct]
  have em := b_many (nBx (c0 := c) (c2 := c2) (I := I) (J := J) (Q := Q) (A := A) (Ga := Ga) (Va := Va) hC) k (B := N) 0
  have et := b_tired (nBx (c0 := c) (c2 := c2) (I := I) (J := J) (Q := Q) (A := A) (Ga := Ga) (Va := Va) hC) k (B := N)
  rw [E_X5_counted_0]
  match w, hw with
  | 0, _ => simp only [show nI 0 = 0 from rfl, if_true, mo_0, mg_0_0, mg_0_1, mg_0_2, mg_0_3, mg_0_4, mg_0_5, mg_0_6, mg_0_7, mg_0_8, mg_0_9, mg_0_10, mg_0_11, Option.bind_some, (hC ..).2.2.1, yCn]
  | 1, _ => simp only [show ¬ nI 1 = 0 by decide, show nI 1 = 1 from rfl, if_false, if_true, mo_0, mg_0_0, mg_0_1, mg_0_2, mg_0_3, mg_0_4, mg_0_5, mg_0_6, mg_0_7, mg_0_8, mg_0_9, mg_0_10, mg_0_11, Option.bind_some, (hC ..).2.1, yCn, i01]
  | 2, _ => simp only [show ¬ nI 2 = 0 by decide, show ¬ nI 2 = 1 by decide, show nI 2 = 2 from rfl, if_false, if_true, mo_0, mg_0_0, mg_0_1, mg_0_2, mg_0_3, mg_0_4, mg_0_5, mg_0_6, mg_0_7, mg_0_8, mg_0_9, mg_0_10, mg_0_11, Option.bind_some, mg_19_1, yCn, show ¬ (2 : Int32) = 0 by decide, show ¬ (2 : Int32) = 1 by decide]
  | 3, _ => simp only [show ¬ nI 3 = 0 by decide, show ¬ nI 3 = 1 by decide, show ¬ nI 3 = 2 by decide, show nI 3 = 3 from rfl, if_false, if_true, mo_0, mg_0_0, mg_0_1, mg_0_2, mg_0_3, mg_0_4, mg_0_5, mg_0_6, mg_0_7, mg_0_8, mg_0_9, mg_0_10, mg_0_11, mo_9, Option.bind_some, em, zcI_some, yCn, show ¬ (3 : Int32) = 0 by decide, show ¬ (3 : Int32) = 1 by decide, show ¬ (3 : Int32) = 2 by decide]
  | 4, _ => simp only [show nI 4 = 4 from rfl, if_false, if_true, mo_0, mg_0_0, mg_0_1, mg_0_2, mg_0_3, mg_0_4, mg_0_5, mg_0_6, mg_0_7, mg_0_8, mg_0_9, mg_0_10, mg_0_11, mo_9, Option.bind_some, et, zcI_some, yCn, show ¬ (4 : Int32) = 0 by decide, show ¬ (4 : Int32) = 1 by decide, show ¬ (4 : Int32) = 2 by decide, show ¬ (4 : Int32) = 3 by decide]
  | 5, _ => simp only [show nI 5 = 5 from rfl, if_false, if_true, mo_0, mg_0_0, mg_0_1, mg_0_2, mg_0_3, mg_0_4, mg_0_5, mg_0_6, mg_0_7, mg_0_8, mg_0_9, mg_0_10, mg_0_11, (hC ..).1, Option.bind_some, cr_bits (hC ..) k, j_count, c4, zcI_some, yCn, show ¬ (5 : Int32) = 0 by decide, show ¬ (5 : Int32) = 1 by decide, show ¬ (5 : Int32) = 2 by decide, show ¬ (5 : Int32) = 3 by decide, show ¬ (5 : Int32) = 4 by decide]
  | 6, _ => simp only [show nI 6 = 6 from rfl, if_false, if_true, mo_0, mg_0_0, mg_0_1, mg_0_2, mg_0_3, mg_0_4, mg_0_5, mg_0_6, mg_0_7, mg_0_8, mg_0_9, mg_0_10, mg_0_11, Option.bind_some, k_rows, zcI_some, yCn, show ¬ (6 : Int32) = 0 by decide, show ¬ (6 : Int32) = 1 by decide, show ¬ (6 : Int32) = 2 by decide, show ¬ (6 : Int32) = 3 by decide, show ¬ (6 : Int32) = 4 by decide, show ¬ (6 : Int32) = 5 by decide]
  | 7, _ => simp only [show nI 7 = 7 from rfl, if_false, if_true, mo_0, mg_0_0, mg_0_1, mg_0_2, mg_0_3, mg_0_4, mg_0_5, mg_0_6, mg_0_7, mg_0_8, mg_0_9, mg_0_10, mg_0_11, Option.bind_some, k_texts, zcI_some, yCn, show ¬ (7 : Int32) = 0 by decide, show ¬ (7 : Int32) = 1 by decide, show ¬ (7 : Int32) = 2 by decide, show ¬ (7 : Int32) = 3 by decide, show ¬ (7 : Int32) = 4 by decide, show ¬ (7 : Int32) = 5 by decide, show ¬ (7 : Int32) = 6 by decide]
  | 8, _ => simp only [show nI 8 = 8 from rfl, if_false, if_true, mo_0, mg_0_0, mg_0_1, mg_0_2, mg_0_3, mg_0_4, mg_0_5, mg_0_6, mg_0_7, mg_0_8, mg_0_9, mg_0_10, mg_0_11, Option.bind_some, k_keeps, zcI_some, yCn, show ¬ (8 : Int32) = 0 by decide, show ¬ (8 : Int32) = 1 by decide, show ¬ (8 : Int32) = 2 by decide, show ¬ (8 : Int32) = 3 by decide, show ¬ (8 : Int32) = 4 by decide, show ¬ (8 : Int32) = 5 by decide, show ¬ (8 : Int32) = 6 by decide, show ¬ (8 : Int32) = 7 by decide]
  | w + 9, h => exact absurd h (by omega)
end COUNT
section DIGEST
def yMx (g : Int64) (v : Int32) : Int64 := 31 * g + v.toInt64
def yRw (s : Int32) (f : zA) (g : Int64) : Int64 := if s = -1 then yMx g (-1) else zfd (fun a i => yMx a (f i)) 0 s.toNatClampNeg (yMx g s)
def yDg (C : zCs) (I : zA) (Q : Nat → zA) (N : zBr) : Int64 :=
  zfd (fun a j => yRw (I (12 + j)) (Q (19 + j)) a) 0 4 (zfd (fun a j => yRw (I (6 + j)) (Q (13 + j)) a) 0 6 (zfd (fun a j => yMx a (I (3 + j))) 0 3 (zfd (fun a m => zfd (fun a w => yMx a (sMan C N.1 N.2.2.1 N.2.2.2 m (nI w))) 0 6 a) 0 C.2.1 (zfd (fun a j => yMx (yMx a (C.2.2.1 j)) (N.2.1 j)) 0 C.1 (zfd (fun a w => yMx a (yCn C I N w)) 0 9 17)))))
theorem zfd_cat {α : Type} {f : α → Nat → α} : ∀ {m j n : Nat} {s : α}, zfd f j (m + n) s = zfd f (j + m) n (zfd f j m s)
  | 0, j, n, s => by simp only [Nat.zero_add, Nat.add_zero, zfd]
  | m + 1, j, n, s => by
    rw [show m + 1 + n = (m + n) + 1 by omega, zfd, zfd, zfd_cat (m := m), show j + 1 + m = j + (m + 1) by omega]
theorem zfd_sh {α : Type} {f : α → Nat → α} (b : Nat) : ∀ {n j : Nat} {s : α}, zfd f (b + j) n s = zfd (fun s w => f s (b + w)) j n s
  | 0, _, _ => rfl
  | n + 1, j, s => by
    rw [zfd, zfd, show b + j + 1 = b + (j + 1) by omega, zfd_sh b]
theorem zfd_mul {α : Type} {f : α → Nat → α} (q : Nat) : ∀ {n : Nat} {s : α}, zfd f 0 (q * n) s = zfd (fun s m => zfd (fun s w => f s (q * m + w)) 0 q s) 0 n s
  | 0, s => by simp only [Nat.mul_zero, zfd]
  | n + 1, s => by
    rw [zfd_succ, ← zfd_mul q, Nat.mul_succ, zfd_cat, Nat.zero_add, Nat.zero_add]
    exact zfd_sh (q * n) (j := 0)
theorem rw_cases {s : Int32} {f : zA} {o : Option (List Int32)} {mx : Nat} (h : zRw s f o mx) (hm : mx ≤ 60) : s = -1 ∨ ∃ m, m ≤ 60 ∧ s = nI m := by
  cases o with
  | none => exact .inl h
  | some l => exact .inr ⟨l.length, Nat.le_trans h.1 hm, h.2.1⟩
theorem k_digest {r : zE} {C : zCs} {d : Nat} {M : Nat → zDk} {K : Nat → Option (Nat × (Nat → zDk))} {W Tx : Nat → Option (List Int32)} {ta : Int32} {tu tl : Int64} {Ga Va : zA} {c c2 : Nat} {I : zA} {J : Nat → Int64} {Q : Nat → zA} {N A : zBr} {t : zH} (iv : zIw r C d M K W Tx ta tu tl c I J Q N t) : zev r i_X5_digest 0 [some (.ref (r.1 + 0)), none, none, none, none] [] (zmk r c c c2 I J Q N A Ga Va t) = some (some (.long (yDg C I Q N)), (zmk r c c c2 I J Q N A Ga Va t)) := by
  obtain ⟨k, hC, no, de, hd, hp, ke, ro, te, -⟩ := id iv
  have k1 := k.1
  have k2 := k.2.1
  have bx := nBx (r := r) (c0 := c) (c2 := c2) (I := I) (J := J) (Q := Q) (A := A) (Ga := Ga) (Va := Va) hC
  rw [E_X5_digest_0]
  refine (zloop (fun j (a : Int64) => zev r i_X5_digest 6 [some (.ref (r.1 + 0)), some (.long a), none, some (.int (nI j)), none] [] (zmk r c c c2 I J Q N A Ga Va t)) (fun a => zev r i_X5_digest 33 [some (.ref (r.1 + 0)), some (.long a), none, some (.int 0), none] [] (zmk r c c c2 I J Q N A Ga Va t)) (fun a w => yMx a (yCn C I N w)) 9 (fun j a hj => ?_) (fun a => ?_) 17).trans ?_
  · refine (E_X5_digest_6 ..).trans ?_
    simp only [if_pos (show nI j < 9 from nI_lt (b := 9) hj (by decide)), mo_0, mg_0_0, mg_0_1, mg_0_2, mg_0_3, mg_0_4, mg_0_5, mg_0_6, mg_0_7, mg_0_8, mg_0_9, mg_0_10, mg_0_11, if_true, k_counted k hC hj, zcI_some, nI_1]
    rfl
  · refine (E_X5_digest_6 ..).trans ?_
    rw [if_neg (show ¬ nI 9 < 9 by decide)]
  unfold yDg
  generalize zfd (fun a w => yMx a (yCn C I N w)) 0 9 17 = g1
  refine (zloop (fun j (a : Int64) => zev r i_X5_digest 33 [some (.ref (r.1 + 0)), some (.long a), none, some (.int (nI j)), none] [] (zmk r c c c2 I J Q N A Ga Va t)) (fun a => zev r i_X5_digest 85 [some (.ref (r.1 + 0)), some (.long a), none, some (.int 0), none] [] (zmk r c c c2 I J Q N A Ga Va t)) (fun a j => yMx (yMx a (C.2.2.1 j)) (N.2.1 j)) C.1 (fun j a hj => ?_) (fun a => ?_) g1).trans ?_
  · refine (E_X5_digest_33 ..).trans ?_
    have e0 := b_hook bx k hj (B := N) 0
    have e1 := b_hook bx k hj (B := N) 1
    rw [if_pos rfl] at e0
    rw [if_neg i01] at e1
    simp only [mo_0, mg_0_0, mg_0_1, mg_0_2, mg_0_3, mg_0_4, mg_0_5, mg_0_6, mg_0_7, mg_0_8, mg_0_9, mg_0_10, mg_0_11, Option.bind_some, (hC ..).2.1, if_pos (nI_lt hj (show C.1 < 2 ^ 31 by omega))]
    refine (E_X5_digest_47 ..).trans ?_
    simp only [show (0 : Int32) < 2 by decide, if_true, mo_0, mg_0_0, mg_0_1, mg_0_2, mg_0_3, mg_0_4, mg_0_5, mg_0_6, mg_0_7, mg_0_8, mg_0_9, mg_0_10, mg_0_11, mo_9, Option.bind_some, e0, zcI_some]
    refine (E_X5_digest_47 ..).trans ?_
    simp only [show (0 : Int32) + 1 = 1 by decide, show (1 : Int32) < 2 by decide, if_true, mo_0, mg_0_0, mg_0_1, mg_0_2, mg_0_3, mg_0_4, mg_0_5, mg_0_6, mg_0_7, mg_0_8, mg_0_9, mg_0_10, mg_0_11, mo_9, Option.bind_some, e1, zcI_some]
    refine (E_X5_digest_47 ..).trans ?_
    simp only [show ¬ (1 : Int32) + 1 < 2 by decide, if_false, nI_1]
    rfl
  · refine (E_X5_digest_33 ..).trans ?_
    simp only [mo_0, mg_0_0, mg_0_1, mg_0_2, mg_0_3, mg_0_4, mg_0_5, mg_0_6, mg_0_7, mg_0_8, mg_0_9, mg_0_10, mg_0_11, Option.bind_some, (hC ..).2.1, if_neg (nI_nlt (Nat.le_refl C.1) (show C.1 < 2 ^ 31 by omega))]
  generalize zfd (fun a j => yMx (yMx a (C.2.2.1 j)) (N.2.1 j)) 0 C.1 g1 = g2
  refine (zloop (fun j (a : Int64) => zev r i_X5_digest 85 [some (.ref (r.1 + 0)), some (.long a), none, some (.int (nI j)), none] [] (zmk r c c c2 I J Q N A Ga Va t)) (fun a => zev r i_X5_digest 138 [some (.ref (r.1 + 0)), some (.long a), none, some (.int 0), none] [] (zmk r c c c2 I J Q N A Ga Va t)) (fun a m => zfd (fun a w => yMx a (sMan C N.1 N.2.2.1 N.2.2.2 m (nI w))) 0 6 a) C.2.1 (fun m a hm => ?_) (fun a => ?_) g2).trans ?_
  · refine (E_X5_digest_85 ..).trans ?_
    simp only [mo_0, mg_0_0, mg_0_1, mg_0_2, mg_0_3, mg_0_4, mg_0_5, mg_0_6, mg_0_7, mg_0_8, mg_0_9, mg_0_10, mg_0_11, Option.bind_some, (hC ..).2.2.1, if_pos (nI_lt6 k hm)]
    refine zloop (fun j (a : Int64) => zev r i_X5_digest 99 [some (.ref (r.1 + 0)), some (.long a), none, some (.int (nI m)), some (.int (nI j))] [] (zmk r c c c2 I J Q N A Ga Va t)) (fun a => zev r i_X5_digest 85 [some (.ref (r.1 + 0)), some (.long a), none, some (.int (nI (m + 1))), none] [] (zmk r c c c2 I J Q N A Ga Va t)) (fun a w => yMx a (sMan C N.1 N.2.2.1 N.2.2.2 m (nI w))) 6 (fun j a hj => ?_) (fun a => ?_) a
    · refine (E_X5_digest_99 ..).trans ?_
      simp only [if_pos (show nI j < 6 from nI_lt (b := 6) hj (by decide)), mo_0, mg_0_0, mg_0_1, mg_0_2, mg_0_3, mg_0_4, mg_0_5, mg_0_6, mg_0_7, mg_0_8, mg_0_9, mg_0_10, mg_0_11, mo_9, if_true, Option.bind_some, b_man bx k hm, zcI_some, nI_1]
      rfl
    · refine (E_X5_digest_99 ..).trans ?_
      simp only [if_neg (show ¬ nI 6 < 6 by decide), nI_1]
  · refine (E_X5_digest_85 ..).trans ?_
    simp only [mo_0, mg_0_0, mg_0_1, mg_0_2, mg_0_3, mg_0_4, mg_0_5, mg_0_6, mg_0_7, mg_0_8, mg_0_9, mg_0_10, mg_0_11, Option.bind_some, (hC ..).2.2.1, if_neg (nI_nlt6 k)]
  generalize zfd (fun a m => zfd (fun a w => yMx a (sMan C N.1 N.2.2.1 N.2.2.2 m (nI w))) 0 6 a) 0 C.2.1 g2 = g3
  refine (zloop (fun j (a : Int64) => zev r i_X5_digest 138 [some (.ref (r.1 + 0)), some (.long a), none, some (.int (nI j)), none] [] (zmk r c c c2 I J Q N A Ga Va t)) (fun a => zev r i_X5_digest 172 [some (.ref (r.1 + 0)), some (.long a), none, some (.int 0), none] [] (zmk r c c c2 I J Q N A Ga Va t)) (fun a j => yMx a (I (3 + j))) 3 (fun j a hj => ?_) (fun a => ?_) g3).trans ?_
  · refine (E_X5_digest_138 ..).trans ?_
    simp only [mo_0, mg_0_0, mg_0_1, mg_0_2, mg_0_3, mg_0_4, mg_0_5, mg_0_6, mg_0_7, mg_0_8, mg_0_9, mg_0_10, mg_0_11, mn_21, Option.bind_some, nI_of0, if_pos (nI_lt hj (show 3 < 2 ^ 31 by decide)), mq_21 hj, mgs_k hj, nI_1]
    rfl
  · refine (E_X5_digest_138 ..).trans ?_
    simp only [mo_0, mg_0_0, mg_0_1, mg_0_2, mg_0_3, mg_0_4, mg_0_5, mg_0_6, mg_0_7, mg_0_8, mg_0_9, mg_0_10, mg_0_11, mn_21, Option.bind_some, nI_of0, if_neg (nI_nlt (Nat.le_refl 3) (show 3 < 2 ^ 31 by decide))]
  generalize zfd (fun a j => yMx a (I (3 + j))) 0 3 g3 = g4
  refine (zloop (fun j (a : Int64) => zev r i_X5_digest 172 [some (.ref (r.1 + 0)), some (.long a), none, some (.int (nI j)), none] [] (zmk r c c c2 I J Q N A Ga Va t)) (fun a => zev r i_X5_digest 200 [some (.ref (r.1 + 0)), some (.long a), none, some (.int 0), none] [] (zmk r c c c2 I J Q N A Ga Va t)) (fun a j => yRw (I (6 + j)) (Q (13 + j)) a) 6 (fun j a hj => ?_) (fun a => ?_) g4).trans ?_
  · refine (E_X5_digest_172 ..).trans ?_
    have e : zev r i_X4_digestedOnto 0 [some (.ref (r.1 + 23 + 2 * j)), some (.long a), none, none, none, none] [] (zmk r c c c2 I J Q N A Ga Va t) = some (some (.long (yRw (I (6 + j)) (Q (13 + j)) a)), (zmk r c c c2 I J Q N A Ga Va t)) := by
      rcases rw_cases (ro j hj) (by decide) with s1 | ⟨m, hm, s1⟩
      · rw [wr_dig1 hj s1, s1]; rfl
      · rw [wr_dig hj s1 (show m ≤ 60 by omega), s1]
        unfold yRw
        rw [if_neg (nI_m1 (show m < 2 ^ 31 by omega)), nI_clamp (show m < 2 ^ 31 by omega)]
        rfl
    simp only [mo_0, mg_0_0, mg_0_1, mg_0_2, mg_0_3, mg_0_4, mg_0_5, mg_0_6, mg_0_7, mg_0_8, mg_0_9, mg_0_10, mg_0_11, mn_1, Option.bind_some, nI_of0, if_pos (nI_lt hj (show 6 < 2 ^ 31 by decide)), mq_1 hj, mo_r hj, if_true, e, zcL_some, nI_1]
  · refine (E_X5_digest_172 ..).trans ?_
    simp only [mo_0, mg_0_0, mg_0_1, mg_0_2, mg_0_3, mg_0_4, mg_0_5, mg_0_6, mg_0_7, mg_0_8, mg_0_9, mg_0_10, mg_0_11, mn_1, Option.bind_some, nI_of0, if_neg (nI_nlt (Nat.le_refl 6) (show 6 < 2 ^ 31 by decide))]
  generalize zfd (fun a j => yRw (I (6 + j)) (Q (13 + j)) a) 0 6 g4 = g5
  refine zloop (fun j (a : Int64) => zev r i_X5_digest 200 [some (.ref (r.1 + 0)), some (.long a), none, some (.int (nI j)), none] [] (zmk r c c c2 I J Q N A Ga Va t)) (fun a => some (some (.long a), (zmk r c c c2 I J Q N A Ga Va t))) (fun a j => yRw (I (12 + j)) (Q (19 + j)) a) 4 (fun j a hj => ?_) (fun a => ?_) g5
  · refine (E_X5_digest_200 ..).trans ?_
    have e : zev r i_X4_digestedOnto 0 [some (.ref (r.1 + 35 + 2 * j)), some (.long a), none, none, none, none] [] (zmk r c c c2 I J Q N A Ga Va t) = some (some (.long (yRw (I (12 + j)) (Q (19 + j)) a)), (zmk r c c c2 I J Q N A Ga Va t)) := by
      rcases rw_cases (te j hj) (by decide) with s1 | ⟨m, hm, s1⟩
      · rw [wt_dig1 hj s1, s1]; rfl
      · rw [wt_dig hj s1 (show m ≤ 60 by omega), s1]
        unfold yRw
        rw [if_neg (nI_m1 (show m < 2 ^ 31 by omega)), nI_clamp (show m < 2 ^ 31 by omega)]
        rfl
    simp only [mo_0, mg_0_0, mg_0_1, mg_0_2, mg_0_3, mg_0_4, mg_0_5, mg_0_6, mg_0_7, mg_0_8, mg_0_9, mg_0_10, mg_0_11, mn_2, Option.bind_some, nI_of0, if_pos (nI_lt hj (show 4 < 2 ^ 31 by decide)), mq_2 hj, mo_t hj, if_true, e, zcL_some, nI_1]
  · refine (E_X5_digest_200 ..).trans ?_
    simp only [mo_0, mg_0_0, mg_0_1, mg_0_2, mg_0_3, mg_0_4, mg_0_5, mg_0_6, mg_0_7, mg_0_8, mg_0_9, mg_0_10, mg_0_11, mn_2, Option.bind_some, nI_of0, if_neg (nI_nlt (Nat.le_refl 4) (show 4 < 2 ^ 31 by decide))]
/-- the digest, of what is told -/
def yRo (o : Option (List Int32)) (g : Int64) : Int64 := match o with
  | none => yMx g (-1)
  | some l => zfd (fun a i => yMx a (l.getD i 0)) 0 l.length (yMx g (nI l.length))
def yKo (o : Option (Nat × (Nat → zDk))) : Int32 := match o with
  | none => -1
  | some q => nI q.1
def yTo {α : Type} (f : Nat → Option α) (n : Nat) : Int32 := zfd (fun (a : Int32) i => match f i with | none => a | some _ => a + 1) 0 n 0
def yCv (C : zCs) (d : Nat) (D : zDk) (K : Nat → Option (Nat × (Nat → zDk))) (W Tx : Nat → Option (List Int32)) : Nat → Int32
  | 0 => nI C.2.1
  | 1 => nI C.1
  | 2 => nI d
  | 3 => sMany C D.1 0
  | 4 => sTired C D.2.2
  | 5 => sTall C
  | 6 => yTo W 6
  | 7 => yTo Tx 4
  | _ => yTo K 3
def vDg (C : zCs) (d : Nat) (D : zDk) (K : Nat → Option (Nat × (Nat → zDk))) (W Tx : Nat → Option (List Int32)) : Int64 :=
  zfd (fun a j => yRo (Tx j) a) 0 4 (zfd (fun a j => yRo (W j) a) 0 6 (zfd (fun a j => yMx a (yKo (K j))) 0 3 (zfd (fun a m => zfd (fun a w => yMx a (sMan C D.1 D.2.1 D.2.2 m (nI w))) 0 6 a) 0 C.2.1 (zfd (fun a j => yMx (yMx a (C.2.2.1 j)) (sWho D.1 (nI j) 0 C.2.1)) 0 C.1 (zfd (fun a w => yMx a (yCv C d D K W Tx w)) 0 9 17)))))
theorem th_to {α : Type} {f : Nat → Int32} {g : Nat → Option α} {n : Nat} (h : ∀ i, i < n → (f i = -1 ↔ g i = none)) : yTh f n = yTo g n := by
  unfold yTh yTo
  refine zfd_congr fun s i _ hi => ?_
  have := h i (by omega)
  cases e : g i with
  | none => rw [if_pos (this.mpr e)]
  | some x => rw [if_neg (fun q => by rw [this.mp q] at e; cases e)]
theorem rw_miss {s : Int32} {f : zA} {o : Option (List Int32)} {mx : Nat} (h : zRw s f o mx) (hm : mx ≤ 60) : s = -1 ↔ o = none := by
  cases o with
  | none => exact ⟨fun _ => rfl, fun _ => h⟩
  | some l =>
    refine ⟨fun q => ?_, fun q => by cases q⟩
    have := h.1
    rw [h.2.1] at q
    exact absurd q (nI_m1 (by omega))
theorem rw_ro {s : Int32} {f : zA} {o : Option (List Int32)} {mx : Nat} (h : zRw s f o mx) (hm : mx ≤ 60) (g : Int64) : yRw s f g = yRo o g := by
  cases o with
  | none =>
    have : s = -1 := h
    unfold yRw yRo
    rw [if_pos this]
  | some l =>
    obtain ⟨h1, h2, h3⟩ := h
    unfold yRw yRo
    rw [h2, if_neg (nI_m1 (by omega)), nI_clamp (by omega)]
    exact zfd_congr fun a i _ hi => by rw [h3 i (by omega)]
theorem ke_ko {C : zCs} {s : Int32} {P : zA} {o : Option (Nat × (Nat → zDk))} (h : zKe C s P o) : s = yKo o := by
  cases o with
  | none => exact h
  | some q => exact h.1
theorem ke_miss {C : zCs} {s : Int32} {P : zA} {o : Option (Nat × (Nat → zDk))} (h : zKe C s P o) : s = -1 ↔ o = none := by
  cases o with
  | none => exact ⟨fun _ => rfl, fun _ => h⟩
  | some q =>
    refine ⟨fun e => ?_, fun e => by cases e⟩
    have := h.2.1
    rw [h.1] at e
    exact absurd e (nI_m1 (by omega))
section CALLS6
variable {r : zE} {C : zCs} {d : Nat} {M : Nat → zDk} {K : Nat → Option (Nat × (Nat → zDk))} {W Tx : Nat → Option (List Int32)} {ta : Int32} {tu tl : Int64} {Ga Va : zA} {n : Nat} {h : zH}
theorem cn_cv {r : zE} {C : zCs} {d : Nat} {M : Nat → zDk} {K : Nat → Option (Nat × (Nat → zDk))} {W Tx : Nat → Option (List Int32)} {ta : Int32} {tu tl : Int64} {c : Nat} {I : zA} {J : Nat → Int64} {Q : Nat → zA} {N : zBr} {t : zH} (iv : zIw r C d M K W Tx ta tu tl c I J Q N t) {w : Nat} (hw : w < 9) : yCn C I N w = yCv C d (M d) K W Tx w := by
  obtain ⟨k, hC, no, de, hd, hp, ke, ro, te, -⟩ := id iv
  match w, hw with
  | 0, _ => rfl
  | 1, _ => rfl
  | 2, _ => exact hd
  | 3, _ => exact sMany_c (de_h de) 0
  | 4, _ => exact sTired_c (de_t de)
  | 5, _ => rfl
  | 6, _ => exact th_to fun i hi => rw_miss (ro i hi) (by decide)
  | 7, _ => exact th_to fun i hi => rw_miss (te i hi) (by decide)
  | 8, _ => exact th_to fun i hi => ke_miss (ke i hi)
  | w + 9, h => exact absurd h (by omega)
theorem dg_eq {r : zE} {C : zCs} {d : Nat} {M : Nat → zDk} {K : Nat → Option (Nat × (Nat → zDk))} {W Tx : Nat → Option (List Int32)} {ta : Int32} {tu tl : Int64} {c : Nat} {I : zA} {J : Nat → Int64} {Q : Nat → zA} {N : zBr} {t : zH} (iv : zIw r C d M K W Tx ta tu tl c I J Q N t) : yDg C I Q N = vDg C d (M d) K W Tx := by
  obtain ⟨k, hC, no, de, hd, hp, ke, ro, te, -⟩ := id iv
  unfold yDg vDg
  rw [zfd_congr (f := fun a w => yMx a (yCn C I N w)) (g := fun a w => yMx a (yCv C d (M d) K W Tx w)) (fun s i _ hi => by rw [cn_cv iv (by omega)]),
    zfd_congr (f := fun a j => yMx (yMx a (C.2.2.1 j)) (N.2.1 j)) (g := fun a j => yMx (yMx a (C.2.2.1 j)) (sWho (M d).1 (nI j) 0 C.2.1)) (fun s i _ hi => by rw [who_g no.1 k (fun q hq => (de_h de q hq).symm) (by omega)]),
    zfd_congr (f := fun a m => zfd (fun a w => yMx a (sMan C N.1 N.2.2.1 N.2.2.2 m (nI w))) 0 6 a) (g := fun a m => zfd (fun a w => yMx a (sMan C (M d).1 (M d).2.1 (M d).2.2 m (nI w))) 0 6 a) (fun s i _ hi => zfd_congr fun s w _ _ => by rw [de_man de (by omega)]),
    zfd_congr (f := fun a j => yMx a (I (3 + j))) (g := fun a j => yMx a (yKo (K j))) (fun s i _ hi => by rw [ke_ko (ke i (by omega))]),
    zfd_congr (f := fun a j => yRw (I (6 + j)) (Q (13 + j)) a) (g := fun a j => yRo (W j) a) (fun s i _ hi => rw_ro (ro i (by omega)) (by decide) s),
    zfd_congr (f := fun a j => yRw (I (12 + j)) (Q (19 + j)) a) (g := fun a j => yRo (Tx j) a) (fun s i _ hi => rw_ro (te i (by omega)) (by decide) s)]
theorem ck_digest (st : zSt r C d M K W Tx ta tu tl Ga Va n h) : zev r i_X5_digest 0 [some (.ref (r.1 + 0)), none, none, none, none] [] h = some (some (.long (vDg C d (M d) K W Tx)), h) := by
  obtain ⟨c, c2, I, J, Q, N, A, t, rfl, iv, t1, t2⟩ := st
  rw [← dg_eq iv]
  exact k_digest iv
theorem ck_count {w : Nat} (hw : w < 9) (st : zSt r C d M K W Tx ta tu tl Ga Va n h) : zev r i_X5_count 0 [some (.ref (r.1 + 0)), some (.int (nI w))] [] h = some (some (.int (yCv C d (M d) K W Tx w)), h) := by
  obtain ⟨c, c2, I, J, Q, N, A, t, rfl, iv, t1, t2⟩ := st
  rw [← cn_cv iv hw]
  obtain ⟨k, hC, -⟩ := id iv
  rw [E_X5_count_0, if_neg (nI_pos (by omega)), if_pos (show nI w < 9 from nI_lt (b := 9) hw (by decide))]
  simp only [mo_0, mg_0_0, mg_0_1, mg_0_2, mg_0_3, mg_0_4, mg_0_5, mg_0_6, mg_0_7, mg_0_8, mg_0_9, mg_0_10, mg_0_11, if_true, k_counted k hC hw, zcI_some]
end CALLS6
end DIGEST
