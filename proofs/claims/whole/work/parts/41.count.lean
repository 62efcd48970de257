/-! COUNT, DIGEST: both alike -/
section COUNT
variable {r : zE} {c0 c1 c2 : Nat} {I : Nat → Int32} {J : Nat → Int64} {Q : Nat → Nat → Int32} {N A : zBr} {U : Nat → Int32} {V : Nat → Int64} {X : Nat → Nat → Int32} {S : zSs} {t : zH} {C : zCs} {c n d : Nat}
/-- how many are there -/
def yTh (f : Nat → Int32) (n : Nat) : Int32 := zfd (fun (a : Int32) i => if f i = -1 then a else a + 1) 0 n 0
def yCn (C : zCs) (I : zA) (N : zBr) : Nat → Int32
  | 0 => nI C.2.1
  | 1 => nI C.1
  | 2 => I 2
  | 3 => sMany C N.1 0
  | 4 => sTired C N.2.2.2
  | 5 => sTall C
  | 6 => yTh (fun i => I (6 + i)) 6
  | 7 => yTh (fun i => I (12 + i)) 4
  | _ => yTh (fun i => I (3 + i)) 3
theorem k_rows : zev r i_X5_howManyThere 0 [some (.ref (r.1 + 1)), none, none] [] (zmk r c0 c1 c2 I J Q N A U V X S t) = some (some (.int (yTh (fun i => I (6 + i)) 6)), zmk r c0 c1 c2 I J Q N A U V X S t) := by
  rw [E_X5_howManyThere_0]
  refine zloop (fun j (a : Int32) => zev r i_X5_howManyThere 4 [some (.ref (r.1 + 1)), some (.int a), some (.int (nI j))] [] (zmk r c0 c1 c2 I J Q N A U V X S t)) (fun a => some (some (.int a), zmk r c0 c1 c2 I J Q N A U V X S t)) _ 6 (fun j a hj => ?_) (fun a => ?_) 0
  · refine (E_X5_howManyThere_4 ..).trans ?_
    simp only [mn_1, Option.bind_some, nI_of0, if_pos (nI_lt hj (show 6 < 2 ^ 31 by decide)), mq_1 hj, mo_r hj, if_true, wr_miss hj, zcI_some, nI_1]
    by_cases e : I (6 + j) = -1
    · simp only [e, if_true, i01, if_false]
    · simp only [e, if_true, if_false]
  · refine (E_X5_howManyThere_4 ..).trans ?_
    simp only [mn_1, Option.bind_some, nI_of0, if_neg (nI_nlt (Nat.le_refl 6) (show 6 < 2 ^ 31 by decide))]
theorem k_texts : zev r i_X5_howManyThere 0 [some (.ref (r.1 + 2)), none, none] [] (zmk r c0 c1 c2 I J Q N A U V X S t) = some (some (.int (yTh (fun i => I (12 + i)) 4)), zmk r c0 c1 c2 I J Q N A U V X S t) := by
  rw [E_X5_howManyThere_0]
  refine zloop (fun j (a : Int32) => zev r i_X5_howManyThere 4 [some (.ref (r.1 + 2)), some (.int a), some (.int (nI j))] [] (zmk r c0 c1 c2 I J Q N A U V X S t)) (fun a => some (some (.int a), zmk r c0 c1 c2 I J Q N A U V X S t)) _ 4 (fun j a hj => ?_) (fun a => ?_) 0
  · refine (E_X5_howManyThere_4 ..).trans ?_
    simp only [mn_2, Option.bind_some, nI_of0, if_pos (nI_lt hj (show 4 < 2 ^ 31 by decide)), mq_2 hj, mo_t hj, if_true, wt_miss hj, zcI_some, nI_1]
    by_cases e : I (12 + j) = -1
    · simp only [e, if_true, i01, if_false]
    · simp only [e, if_true, if_false]
  · refine (E_X5_howManyThere_4 ..).trans ?_
    simp only [mn_2, Option.bind_some, nI_of0, if_neg (nI_nlt (Nat.le_refl 4) (show 4 < 2 ^ 31 by decide))]
theorem k_keeps : zev r i_X5_howManyKept 0 [some (.ref (r.1 + 0)), none, none] [] (zmk r c0 c1 c2 I J Q N A U V X S t) = some (some (.int (yTh (fun i => I (3 + i)) 3)), zmk r c0 c1 c2 I J Q N A U V X S t) := by
  rw [E_X5_howManyKept_0]
  refine zloop (fun j (a : Int32) => zev r i_X5_howManyKept 4 [some (.ref (r.1 + 0)), some (.int a), some (.int (nI j))] [] (zmk r c0 c1 c2 I J Q N A U V X S t)) (fun a => some (some (.int a), zmk r c0 c1 c2 I J Q N A U V X S t)) _ 3 (fun j a hj => ?_) (fun a => ?_) 0
  · refine (E_X5_howManyKept_4 ..).trans ?_
    have miss : zev r i_X2_isMissing 0 [some (.ref (r.1 + 43 + 2 * j))] [] (zmk r c0 c1 c2 I J Q N A U V X S t) = some (some (.int (if I (3 + j) = -1 then 1 else 0)), zmk r c0 c1 c2 I J Q N A U V X S t) := by
      simp only [E_X2_isMissing_0, mgs_k hj, Option.bind_some]
      split <;> rfl
    simp only [mo_0, mg_0_0, mg_0_1, mg_0_2, mg_0_3, mg_0_4, mg_0_5, mg_0_6, mg_0_7, mg_0_8, mg_0_9, mg_0_10, mg_0_11, mn_21, Option.bind_some, nI_of0, if_pos (nI_lt hj (show 3 < 2 ^ 31 by decide)), mq_21 hj, mo_k hj, if_true, miss, zcI_some, nI_1]
    by_cases e : I (3 + j) = -1
    · simp only [e, if_true, i01, if_false]
    · simp only [e, if_true, if_false]
  · refine (E_X5_howManyKept_4 ..).trans ?_
    simp only [mo_0, mg_0_0, mg_0_1, mg_0_2, mg_0_3, mg_0_4, mg_0_5, mg_0_6, mg_0_7, mg_0_8, mg_0_9, mg_0_10, mg_0_11, mn_21, Option.bind_some, nI_of0, if_neg (nI_nlt (Nat.le_refl 3) (show 3 < 2 ^ 31 by decide))]
theorem k_counted (k : zCk C) (hC : zCt r t c C) {w : Nat} (hw : w < 9) : zev r i_X5_counted 0 [some (.ref (r.1 + 0)), some (.int (nI w))] [] (zmk r c c c2 I J Q N A U V X S t) = some (some (.int (yCn C I N w)), (zmk r c c c2 I J Q N A U V X S t)) := by
  have c4 : yBc (sBits C 1) = sTall C := by rw [sBits_st, yBc_st _ k.2.1, sTall_ct]
  have em := b_many (nBx (c0 := c) (c2 := c2) (I := I) (J := J) (Q := Q) (A := A) (U := U) (V := V) (X := X) (S := S) hC) k (B := N) 0
  have et := b_tired (nBx (c0 := c) (c2 := c2) (I := I) (J := J) (Q := Q) (A := A) (U := U) (V := V) (X := X) (S := S) hC) k (B := N)
  rw [E_X5_counted_0]
  match w, hw with
  | 0, _ => simp only [show nI 0 = 0 from rfl, if_true, mo_0, mg_0_0, mg_0_1, mg_0_2, mg_0_3, mg_0_4, mg_0_5, mg_0_6, mg_0_7, mg_0_8, mg_0_9, mg_0_10, mg_0_11, Option.bind_some, (hC ..).2.2.1, yCn]
  | 1, _ => simp only [show ¬ nI 1 = 0 by decide, show nI 1 = 1 from rfl, if_false, if_true, mo_0, mg_0_0, mg_0_1, mg_0_2, mg_0_3, mg_0_4, mg_0_5, mg_0_6, mg_0_7, mg_0_8, mg_0_9, mg_0_10, mg_0_11, Option.bind_some, (hC ..).2.1, yCn, i01]
  | 2, _ => simp only [show ¬ nI 2 = 0 by decide, show ¬ nI 2 = 1 by decide, show nI 2 = 2 from rfl, if_false, if_true, mo_0, mg_0_0, mg_0_1, mg_0_2, mg_0_3, mg_0_4, mg_0_5, mg_0_6, mg_0_7, mg_0_8, mg_0_9, mg_0_10, mg_0_11, Option.bind_some, mg_19_1, yCn, show ¬ (2 : Int32) = 0 by decide, show ¬ (2 : Int32) = 1 by decide]
  | 3, _ => simp only [show ¬ nI 3 = 0 by decide, show ¬ nI 3 = 1 by decide, show ¬ nI 3 = 2 by decide, show nI 3 = 3 from rfl, if_false, if_true, mo_0, mg_0_0, mg_0_1, mg_0_2, mg_0_3, mg_0_4, mg_0_5, mg_0_6, mg_0_7, mg_0_8, mg_0_9, mg_0_10, mg_0_11, mo_9, Option.bind_some, em, zcI_some, yCn, show ¬ (3 : Int32) = 0 by decide, show ¬ (3 : Int32) = 1 by decide, show ¬ (3 : Int32) = 2 by decide]
  | 4, _ => simp only [show nI 4 = 4 from rfl, if_false, if_true, mo_0, mg_0_0, mg_0_1, mg_0_2, mg_0_3, mg_0_4, mg_0_5, mg_0_6, mg_0_7, mg_0_8, mg_0_9, mg_0_10, mg_0_11, mo_9, Option.bind_some, et, zcI_some, yCn, show ¬ (4 : Int32) = 0 by decide, show ¬ (4 : Int32) = 1 by decide, show ¬ (4 : Int32) = 2 by decide, show ¬ (4 : Int32) = 3 by decide]
  | 5, _ => simp only [show nI 5 = 5 from rfl, if_false, if_true, mo_0, mg_0_0, mg_0_1, mg_0_2, mg_0_3, mg_0_4, mg_0_5, mg_0_6, mg_0_7, mg_0_8, mg_0_9, mg_0_10, mg_0_11, (hC ..).1, Option.bind_some, cr_bits (hC ..) k, j_count, c4, zcI_some, yCn, show ¬ (5 : Int32) = 0 by decide, show ¬ (5 : Int32) = 1 by decide, show ¬ (5 : Int32) = 2 by decide, show ¬ (5 : Int32) = 3 by decide, show ¬ (5 : Int32) = 4 by decide]
  | 6, _ => simp only [show nI 6 = 6 from rfl, if_false, if_true, mo_0, mg_0_0, mg_0_1, mg_0_2, mg_0_3, mg_0_4, mg_0_5, mg_0_6, mg_0_7, mg_0_8, mg_0_9, mg_0_10, mg_0_11, Option.bind_some, k_rows, zcI_some, yCn, show ¬ (6 : Int32) = 0 by decide, show ¬ (6 : Int32) = 1 by decide, show ¬ (6 : Int32) = 2 by decide, show ¬ (6 : Int32) = 3 by decide, show ¬ (6 : Int32) = 4 by decide, show ¬ (6 : Int32) = 5 by decide]
  | 7, _ => simp only [show nI 7 = 7 from rfl, if_false, if_true, mo_0, mg_0_0, mg_0_1, mg_0_2, mg_0_3, mg_0_4, mg_0_5, mg_0_6, mg_0_7, mg_0_8, mg_0_9, mg_0_10, mg_0_11, Option.bind_some, k_texts, zcI_some, yCn, show ¬ (7 : Int32) = 0 by decide, show ¬ (7 : Int32) = 1 by decide, show ¬ (7 : Int32) = 2 by decide, show ¬ (7 : Int32) = 3 by decide, show ¬ (7 : Int32) = 4 by decide, show ¬ (7 : Int32) = 5 by decide, show ¬ (7 : Int32) = 6 by decide]
  | 8, _ => simp only [show nI 8 = 8 from rfl, if_false, if_true, mo_0, mg_0_0, mg_0_1, mg_0_2, mg_0_3, mg_0_4, mg_0_5, mg_0_6, mg_0_7, mg_0_8, mg_0_9, mg_0_10, mg_0_11, Option.bind_some, k_keeps, zcI_some, yCn, show ¬ (8 : Int32) = 0 by decide, show ¬ (8 : Int32) = 1 by decide, show ¬ (8 : Int32) = 2 by decide, show ¬ (8 : Int32) = 3 by decide, show ¬ (8 : Int32) = 4 by decide, show ¬ (8 : Int32) = 5 by decide, show ¬ (8 : Int32) = 6 by decide, show ¬ (8 : Int32) = 7 by decide]
  | w + 9, h => exact absurd h (by omega)
theorem rr_lt {s s2 : Int32} {f f2 : zA} {mx : Nat} (h : zRr s f s2 f2 mx) (hm : mx ≤ 60) : s2 = s ∧ (s2 < 0 ↔ s = -1) := by
  rcases h with ⟨e1, e2⟩ | ⟨m, hm, e1, e2, -⟩
  · rw [e1, e2]; exact ⟨rfl, by decide⟩
  · rw [e1, e2]; exact ⟨rfl, fun q => absurd q (nI_pos (by omega)), fun q => absurd q (nI_m1 (by omega))⟩
theorem ke_lt (ke : zKe C I Q X) {k : Nat} (hk : k < 3) : X 0 (1099 * (1 + k)) = I (3 + k) ∧ (X 0 (1099 * (1 + k)) < 0 ↔ I (3 + k) = -1) := by
  rcases ke k hk with ⟨e1, e2⟩ | ⟨m, e1, hm, e2, -⟩
  · rw [e1, e2]; exact ⟨rfl, by decide⟩
  · rw [e1, show X 0 (1099 * (1 + k)) = nI m from e2]; exact ⟨rfl, fun q => absurd q (nI_pos (by omega)), fun q => absurd q (nI_m1 (by omega))⟩
theorem m_there6 (ro : zRo I Q X) {c0 c1 c2 : Nat} {I' : zA} {Q' : Nat → zA} : zev r i_X6_thereOf 0 [some (.ref (r.1 + 49)), some (.int 6), none, none] [] (zmk r c0 c1 c2 (I') J (Q') N A U V X S t) = some (some (.int (yTh (fun i => I (6 + i)) 6)), (zmk r c0 c1 c2 (I') J (Q') N A U V X S t)) := by
  rw [E_X6_thereOf_0]
  refine zloop (fun j (a : Int32) => zev r i_X6_thereOf 4 [some (.ref (r.1 + 49)), some (.int 6), some (.int a), some (.int (nI j))] [] (zmk r c0 c1 c2 (I') J (Q') N A U V X S t)) (fun a => some (some (.int a), (zmk r c0 c1 c2 (I') J (Q') N A U V X S t))) _ 6 (fun j a hj => ?_) (fun a => ?_) 0
  · refine (E_X6_thereOf_4 ..).trans ?_
    have e := (rr_lt (ro j hj) (by decide)).2
    simp only [if_pos (show nI j < 6 from nI_lt (b := 6) hj (by decide)), if_true, mo_49, mg_49_0, mg_49_1, mg_49_2, mg_49_3, mg_49_4, mg_49_5, mg_49_6, mg_49_7, mg_49_8, mg_49_9, mg_49_10, mg_49_11, mg_49_12, mg_49_13, mg_49_14, mg_49_15, mg_49_16, mg_49_17, mg_49_18, mg_49_19, mg_49_20, mg_49_21, mg_49_22, mg_49_23, mg_49_24, mg_49_25, Option.bind_some, ma_55 hj, e, nI_1, Int32.add_zero]
    split <;> rfl
  · refine (E_X6_thereOf_4 ..).trans ?_
    simp only [if_neg (show ¬ nI 6 < 6 by decide)]
theorem m_there7 (te : zTe I Q X) {c0 c1 c2 : Nat} {I' : zA} {Q' : Nat → zA} : zev r i_X6_thereOf 0 [some (.ref (r.1 + 49)), some (.int 7), none, none] [] (zmk r c0 c1 c2 (I') J (Q') N A U V X S t) = some (some (.int (yTh (fun i => I (12 + i)) 4)), (zmk r c0 c1 c2 (I') J (Q') N A U V X S t)) := by
  rw [E_X6_thereOf_0]
  refine (zloop (fun j (a : Int32) => zev r i_X6_thereOf 4 [some (.ref (r.1 + 49)), some (.int 7), some (.int a), some (.int (nI j))] [] (zmk r c0 c1 c2 (I') J (Q') N A U V X S t)) (fun a => some (some (.int a), (zmk r c0 c1 c2 (I') J (Q') N A U V X S t))) (fun (a : Int32) j => if j < 4 then if I (12 + j) = -1 then a else a + 1 else a) 6 (fun j a hj => ?_) (fun a => ?_) 0).trans ?_
  · refine (E_X6_thereOf_4 ..).trans ?_
    simp only [if_pos (show nI j < 6 from nI_lt (b := 6) hj (by decide)), show ¬ (7 : Int32) = 6 by decide, if_false, if_true]
    by_cases w : j < 4
    · have e := (rr_lt (te j w) (by decide)).2
      simp only [if_pos w, if_pos (show nI j < 4 from nI_lt (b := 4) w (by decide)), mo_49, mg_49_0, mg_49_1, mg_49_2, mg_49_3, mg_49_4, mg_49_5, mg_49_6, mg_49_7, mg_49_8, mg_49_9, mg_49_10, mg_49_11, mg_49_12, mg_49_13, mg_49_14, mg_49_15, mg_49_16, mg_49_17, mg_49_18, mg_49_19, mg_49_20, mg_49_21, mg_49_22, mg_49_23, mg_49_24, mg_49_25, Option.bind_some, ma_57 w, e, nI_1, Int32.add_zero]
      split <;> rfl
    · simp only [if_neg w, if_neg (show ¬ nI j < 4 from nI_nlt (a := j) (b := 4) (by omega) (by omega)), nI_1, Int32.add_zero]
  · refine (E_X6_thereOf_4 ..).trans ?_
    simp only [if_neg (show ¬ nI 6 < 6 by decide)]
  · simp [zfd, yTh]
theorem m_there8 (ke : zKe C I Q X) {c0 c1 c2 : Nat} {I' : zA} {Q' : Nat → zA} : zev r i_X6_thereOf 0 [some (.ref (r.1 + 49)), some (.int 8), none, none] [] (zmk r c0 c1 c2 (I') J (Q') N A U V X S t) = some (some (.int (yTh (fun i => I (3 + i)) 3)), (zmk r c0 c1 c2 (I') J (Q') N A U V X S t)) := by
  rw [E_X6_thereOf_0]
  refine (zloop (fun j (a : Int32) => zev r i_X6_thereOf 4 [some (.ref (r.1 + 49)), some (.int 8), some (.int a), some (.int (nI j))] [] (zmk r c0 c1 c2 (I') J (Q') N A U V X S t)) (fun a => some (some (.int a), (zmk r c0 c1 c2 (I') J (Q') N A U V X S t))) (fun (a : Int32) j => if j < 3 then if I (3 + j) = -1 then a else a + 1 else a) 6 (fun j a hj => ?_) (fun a => ?_) 0).trans ?_
  · refine (E_X6_thereOf_4 ..).trans ?_
    simp only [if_pos (show nI j < 6 from nI_lt (b := 6) hj (by decide)), show ¬ (8 : Int32) = 6 by decide, show ¬ (8 : Int32) = 7 by decide, if_false, if_true]
    by_cases w : j < 3
    · have e := (ke_lt ke w).2
      have eb : (1099 : Int32) * (1 + nI j) + 0 = nI (1099 * (1 + j)) := by rw [show (1 : Int32) + nI j = nI (1 + j) from nI_add 1 j, show (1099 : Int32) = nI 1099 from rfl, pk_mul, Int32.add_zero]
      simp only [if_pos w, if_pos (show nI j < 3 from nI_lt (b := 3) w (by decide)), mo_49, mg_49_0, mg_49_1, mg_49_2, mg_49_3, mg_49_4, mg_49_5, mg_49_6, mg_49_7, mg_49_8, mg_49_9, mg_49_10, mg_49_11, mg_49_12, mg_49_13, mg_49_14, mg_49_15, mg_49_16, mg_49_17, mg_49_18, mg_49_19, mg_49_20, mg_49_21, mg_49_22, mg_49_23, mg_49_24, mg_49_25, Option.bind_some, eb, ma_50 (show 1099 * (1 + j) < 4396 by omega), e, nI_1, Int32.add_zero]
      split <;> rfl
    · simp only [if_neg w, if_neg (show ¬ nI j < 3 from nI_nlt (a := j) (b := 3) (by omega) (by omega)), nI_1, Int32.add_zero]
  · refine (E_X6_thereOf_4 ..).trans ?_
    simp only [if_neg (show ¬ nI 6 < 6 by decide)]
  · simp [zfd, yTh]
theorem hung_many (C : zCs) (H : zA) : sHung C H = sMany C H 0 := zfd_congr fun s k _ _ => by
  unfold sIn
  by_cases e : H k = -9
  · rw [if_pos e, if_pos e, if_pos rfl]
  · rw [if_neg e, if_neg e, if_pos rfl, if_neg i01]
theorem m_counted (iv : zIv r C c I J Q N U V X t) {w : Nat} (hw : w < 9) : zev r i_X6_countOf 0 [some (.ref (r.1 + 49)), some (.int (nI w))] [] (zmk r c c c2 I J Q N A U V X S t) = some (some (.int (yCn C I N w)), (zmk r c c c2 I J Q N A U V X S t)) := by
  obtain ⟨k, hC, mv, to, ro, te, no, ⟨d, hd, hp⟩, ke⟩ := id iv
  have d0 : X 0 0 = I 2 := (show X 0 0 = nI d from hp.2.1).trans hd.symm
  have eh : sHung C (fun m => X 0 (1 + m)) = sMany C N.1 0 := by rw [hung_many]; exact sMany_c (fun m hm => ((no.2.2 m hm).1).symm) 0
  have et : sTired C (fun m => X 0 (13 + m)) = sTired C N.2.2.2 := sTired_c (fun m hm => ((no.2.2 m hm).2.2).symm)
  have ms0 : zaI r (zmk r c c c2 I J Q N A U V X S t) (r.1 + 50) 0 = some (X 0 0) := ma_50 (j := 0) (by decide)
  rw [E_X6_countOf_0]
  match w, hw with
  | 0, _ => simp only [show nI 0 = 0 from rfl, if_true, mo_49, mg_49_0, mg_49_1, mg_49_2, mg_49_3, mg_49_4, mg_49_5, mg_49_6, mg_49_7, mg_49_8, mg_49_9, mg_49_10, mg_49_11, mg_49_12, mg_49_13, mg_49_14, mg_49_15, mg_49_16, mg_49_17, mg_49_18, mg_49_19, mg_49_20, mg_49_21, mg_49_22, mg_49_23, mg_49_24, mg_49_25, Option.bind_some, mv.2.1, yCn]
  | 1, _ => simp only [show nI 1 = 1 from rfl, if_false, if_true, mo_49, mg_49_0, mg_49_1, mg_49_2, mg_49_3, mg_49_4, mg_49_5, mg_49_6, mg_49_7, mg_49_8, mg_49_9, mg_49_10, mg_49_11, mg_49_12, mg_49_13, mg_49_14, mg_49_15, mg_49_16, mg_49_17, mg_49_18, mg_49_19, mg_49_20, mg_49_21, mg_49_22, mg_49_23, mg_49_24, mg_49_25, Option.bind_some, mv.1, yCn, i01]
  | 2, _ => simp only [show nI 2 = 2 from rfl, if_false, if_true, mo_49, mg_49_0, mg_49_1, mg_49_2, mg_49_3, mg_49_4, mg_49_5, mg_49_6, mg_49_7, mg_49_8, mg_49_9, mg_49_10, mg_49_11, mg_49_12, mg_49_13, mg_49_14, mg_49_15, mg_49_16, mg_49_17, mg_49_18, mg_49_19, mg_49_20, mg_49_21, mg_49_22, mg_49_23, mg_49_24, mg_49_25, Option.bind_some, ms0, d0, yCn, show ¬ (2 : Int32) = 0 by decide, show ¬ (2 : Int32) = 1 by decide]
  | 3, _ => simp only [show nI 3 = 3 from rfl, if_false, if_true, mo_49, mg_49_0, mg_49_1, mg_49_2, mg_49_3, mg_49_4, mg_49_5, mg_49_6, mg_49_7, mg_49_8, mg_49_9, mg_49_10, mg_49_11, mg_49_12, mg_49_13, mg_49_14, mg_49_15, mg_49_16, mg_49_17, mg_49_18, mg_49_19, mg_49_20, mg_49_21, mg_49_22, mg_49_23, mg_49_24, mg_49_25, Option.bind_some, m_hung mv k, eh, zcI_some, yCn, show ¬ (3 : Int32) = 0 by decide, show ¬ (3 : Int32) = 1 by decide, show ¬ (3 : Int32) = 2 by decide]
  | 4, _ => simp only [show nI 4 = 4 from rfl, if_false, if_true, mo_49, mg_49_0, mg_49_1, mg_49_2, mg_49_3, mg_49_4, mg_49_5, mg_49_6, mg_49_7, mg_49_8, mg_49_9, mg_49_10, mg_49_11, mg_49_12, mg_49_13, mg_49_14, mg_49_15, mg_49_16, mg_49_17, mg_49_18, mg_49_19, mg_49_20, mg_49_21, mg_49_22, mg_49_23, mg_49_24, mg_49_25, Option.bind_some, m_tired mv k, et, zcI_some, yCn, show ¬ (4 : Int32) = 0 by decide, show ¬ (4 : Int32) = 1 by decide, show ¬ (4 : Int32) = 2 by decide, show ¬ (4 : Int32) = 3 by decide]
  | 5, _ => simp only [show nI 5 = 5 from rfl, if_false, if_true, mo_49, mg_49_0, mg_49_1, mg_49_2, mg_49_3, mg_49_4, mg_49_5, mg_49_6, mg_49_7, mg_49_8, mg_49_9, mg_49_10, mg_49_11, mg_49_12, mg_49_13, mg_49_14, mg_49_15, mg_49_16, mg_49_17, mg_49_18, mg_49_19, mg_49_20, mg_49_21, mg_49_22, mg_49_23, mg_49_24, mg_49_25, Option.bind_some, m_tall mv k, zcI_some, yCn, show ¬ (5 : Int32) = 0 by decide, show ¬ (5 : Int32) = 1 by decide, show ¬ (5 : Int32) = 2 by decide, show ¬ (5 : Int32) = 3 by decide, show ¬ (5 : Int32) = 4 by decide]
  | 6, _ => simp only [show nI 6 = 6 from rfl, if_false, if_true, mo_49, mg_49_0, mg_49_1, mg_49_2, mg_49_3, mg_49_4, mg_49_5, mg_49_6, mg_49_7, mg_49_8, mg_49_9, mg_49_10, mg_49_11, mg_49_12, mg_49_13, mg_49_14, mg_49_15, mg_49_16, mg_49_17, mg_49_18, mg_49_19, mg_49_20, mg_49_21, mg_49_22, mg_49_23, mg_49_24, mg_49_25, Option.bind_some, m_there6 ro, zcI_some, yCn, show ¬ (6 : Int32) = 0 by decide, show ¬ (6 : Int32) = 1 by decide, show ¬ (6 : Int32) = 2 by decide, show ¬ (6 : Int32) = 3 by decide, show ¬ (6 : Int32) = 4 by decide, show ¬ (6 : Int32) = 5 by decide]
  | 7, _ => simp only [show nI 7 = 7 from rfl, if_false, if_true, mo_49, mg_49_0, mg_49_1, mg_49_2, mg_49_3, mg_49_4, mg_49_5, mg_49_6, mg_49_7, mg_49_8, mg_49_9, mg_49_10, mg_49_11, mg_49_12, mg_49_13, mg_49_14, mg_49_15, mg_49_16, mg_49_17, mg_49_18, mg_49_19, mg_49_20, mg_49_21, mg_49_22, mg_49_23, mg_49_24, mg_49_25, Option.bind_some, m_there7 te, zcI_some, yCn, show ¬ (7 : Int32) = 0 by decide, show ¬ (7 : Int32) = 1 by decide, show ¬ (7 : Int32) = 2 by decide, show ¬ (7 : Int32) = 3 by decide, show ¬ (7 : Int32) = 4 by decide, show ¬ (7 : Int32) = 5 by decide]
  | 8, _ => simp only [show nI 8 = 8 from rfl, if_false, if_true, mo_49, mg_49_0, mg_49_1, mg_49_2, mg_49_3, mg_49_4, mg_49_5, mg_49_6, mg_49_7, mg_49_8, mg_49_9, mg_49_10, mg_49_11, mg_49_12, mg_49_13, mg_49_14, mg_49_15, mg_49_16, mg_49_17, mg_49_18, mg_49_19, mg_49_20, mg_49_21, mg_49_22, mg_49_23, mg_49_24, mg_49_25, Option.bind_some, m_there8 ke, zcI_some, yCn, show ¬ (8 : Int32) = 0 by decide, show ¬ (8 : Int32) = 1 by decide, show ¬ (8 : Int32) = 2 by decide, show ¬ (8 : Int32) = 3 by decide, show ¬ (8 : Int32) = 4 by decide, show ¬ (8 : Int32) = 5 by decide]
  | w + 9, h => exact absurd h (by omega)
theorem lk_count (a : Int32) {h : zH} (st : zSt r n h) : zBoth r n n (zev r i_X5_count 0 [some (.ref (r.1 + 0)), some (.int a)] []) (zev r i_X6_count 0 [some (.ref (r.1 + 49)), some (.int a)] []) h := by
  obtain ⟨C, c, c2, I, J, Q, N, A, U, V, X, S, t, rfl, iv, t1, t2⟩ := st
  obtain ⟨k, hC, mv, _, _, _, no, -⟩ := id iv
  have bw : zbw 0 8 a = zhk 9 a := by rw [← zbw_hk (by decide) a]; rfl
  rcases zhk_cases 9 (by decide) a with f | ⟨f, w, hw, rfl⟩
  · refine both (v := (-1)) (h1 := (zmk r c c c2 I J Q N A U V X S t)) (h2 := (zmk r c c c2 I J Q N A U V X S t)) ?_ ?_ (st_mk iv t1 t2)
    · rw [E_X5_count_0]
      unfold zhk at f
      by_cases a1 : a < 0
      · rw [if_pos a1]
      · rw [if_neg a1] at f ⊢
        by_cases a2 : a < nI 9
        · rw [if_pos a2] at f; exact absurd f i01
        · exact if_neg a2
    · simp only [E_X6_count_0, m_in r _ a 0 8 (l := 0) (k := 8) rfl rfl, bw, f, if_true, zcI_some]
  · refine both (v := (yCn C I N w)) (h1 := (zmk r c c c2 I J Q N A U V X S t)) (h2 := (zmk r c c c2 I J Q N A U V X S t)) ?_ ?_ (st_mk iv t1 t2)
    · rw [E_X5_count_0, if_neg (nI_pos (by omega)), if_pos (show nI w < 9 from nI_lt (b := 9) hw (by decide))]
      simp only [mo_0, mg_0_0, mg_0_1, mg_0_2, mg_0_3, mg_0_4, mg_0_5, mg_0_6, mg_0_7, mg_0_8, mg_0_9, mg_0_10, mg_0_11, if_true, k_counted k hC hw, zcI_some]
    · simp only [E_X6_count_0, m_in r _ (nI w) 0 8 (l := 0) (k := 8) rfl rfl, bw, f, i01, if_false, mo_49, mg_49_0, mg_49_1, mg_49_2, mg_49_3, mg_49_4, mg_49_5, mg_49_6, mg_49_7, mg_49_8, mg_49_9, mg_49_10, mg_49_11, mg_49_12, mg_49_13, mg_49_14, mg_49_15, mg_49_16, mg_49_17, mg_49_18, mg_49_19, mg_49_20, mg_49_21, mg_49_22, mg_49_23, mg_49_24, mg_49_25, if_true, m_counted iv hw, zcI_some]
end COUNT
