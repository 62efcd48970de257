/-! DIGEST: both alike -/
section DIGEST
variable {r : zE} {c0 c1 c2 : Nat} {I : Nat → Int32} {J : Nat → Int64} {Q : Nat → Nat → Int32} {N A : zBr} {U : Nat → Int32} {V : Nat → Int64} {X : Nat → Nat → Int32} {S : zSs} {t : zH} {C : zCs} {c n d : Nat}
/-- one more thing in the digest -/
def yMx (g : Int64) (v : Int32) : Int64 := 31 * g + v.toInt64
def yRw (s : Int32) (f : zA) (g : Int64) : Int64 := if s = -1 then yMx g (-1) else zfd (fun a i => yMx a (f i)) 0 s.toNatClampNeg (yMx g s)
def yDg (C : zCs) (I : zA) (Q : Nat → zA) (N : zBr) : Int64 :=
  zfd (fun a j => yRw (I (12 + j)) (Q (19 + j)) a) 0 4 (zfd (fun a j => yRw (I (6 + j)) (Q (13 + j)) a) 0 6 (zfd (fun a j => yMx a (I (3 + j))) 0 3 (zfd (fun a m => zfd (fun a w => yMx a (sMan C N.1 N.2.2.1 N.2.2.2 m (nI w))) 0 6 a) 0 C.2.1 (zfd (fun a j => yMx (yMx a (C.2.2.1 j)) (N.2.1 j)) 0 C.1 (zfd (fun a w => yMx a (yCn C I N w)) 0 9 17)))))
theorem zfd_cat {α : Type} {f : α → Nat → α} : ∀ {m j n : Nat} {s : α}, zfd f j (m + n) s = zfd f (j + m) n (zfd f j m s)
  | 0, j, n, s => by simp only [Nat.zero_add, Nat.add_zero, zfd]
  | m + 1, j, n, s => by
    rw [show m + 1 + n = (m + n) + 1 by omega, zfd, zfd, zfd_cat (m := m), show j + 1 + m = j + (m + 1) by omega]
theorem zfd_sh {α : Type} {f : α → Nat → α} (b : Nat) : ∀ {n j : Nat} {s : α}, zfd f (b + j) n s = zfd (fun s w => f s (b + w)) j n s
  | 0, _, _ => rfl
  | n + 1, j, s => by
    rw [zfd, zfd, show b + j + 1 = b + (j + 1) by omega, zfd_sh b]
theorem zfd_mul {α : Type} {f : α → Nat → α} (q : Nat) : ∀ {n : Nat} {s : α}, zfd f 0 (q * n) s = zfd (fun s m => zfd (fun s w => f s (q * m + w)) 0 q s) 0 n s
  | 0, s => by simp only [Nat.mul_zero, zfd]
  | n + 1, s => by
    rw [zfd_succ, ← zfd_mul q, Nat.mul_succ, zfd_cat, Nat.zero_add, Nat.zero_add]
    exact zfd_sh (q * n) (j := 0)
theorem k_digest (E : zEk r) (iv : zIv r C c I J Q N U V X t) : zev r i_X5_digest 0 [some (.ref (r.1 + 0)), none, none, none, none] [] (zmk r c c c2 I J Q N A U V X S t) = some (some (.long (yDg C I Q N)), (zmk r c c c2 I J Q N A U V X S t)) := by
  obtain ⟨k, hC, mv, to, ro, te, no, lo, ke⟩ := id iv
  have k1 := k.1
  have k2 := k.2.1
  have bx := nBx (r := r) (c0 := c) (c2 := c2) (I := I) (J := J) (Q := Q) (A := A) (U := U) (V := V) (X := X) (S := S) hC
  rw [E_X5_digest_0]
  refine (zloop (fun j (a : Int64) => zev r i_X5_digest 6 [some (.ref (r.1 + 0)), some (.long a), none, some (.int (nI j)), none] [] (zmk r c c c2 I J Q N A U V X S t)) (fun a => zev r i_X5_digest 33 [some (.ref (r.1 + 0)), some (.long a), none, some (.int 0), none] [] (zmk r c c c2 I J Q N A U V X S t)) (fun a w => yMx a (yCn C I N w)) 9 (fun j a hj => ?_) (fun a => ?_) 17).trans ?_
  · refine (E_X5_digest_6 ..).trans ?_
    simp only [if_pos (show nI j < 9 from nI_lt (b := 9) hj (by decide)), mo_0, mg_0_0, mg_0_1, mg_0_2, mg_0_3, mg_0_4, mg_0_5, mg_0_6, mg_0_7, mg_0_8, mg_0_9, mg_0_10, mg_0_11, if_true, k_counted k hC hj, zcI_some, nI_1]
    rfl
  · refine (E_X5_digest_6 ..).trans ?_
    rw [if_neg (show ¬ nI 9 < 9 by decide)]
  unfold yDg
  generalize zfd (fun a w => yMx a (yCn C I N w)) 0 9 17 = g1
  refine (zloop (fun j (a : Int64) => zev r i_X5_digest 33 [some (.ref (r.1 + 0)), some (.long a), none, some (.int (nI j)), none] [] (zmk r c c c2 I J Q N A U V X S t)) (fun a => zev r i_X5_digest 85 [some (.ref (r.1 + 0)), some (.long a), none, some (.int 0), none] [] (zmk r c c c2 I J Q N A U V X S t)) (fun a j => yMx (yMx a (C.2.2.1 j)) (N.2.1 j)) C.1 (fun j a hj => ?_) (fun a => ?_) g1).trans ?_
  · refine (E_X5_digest_33 ..).trans ?_
    have e0 := b_hook bx k hj (B := N) 0
    have e1 := b_hook bx k hj (B := N) 1
    rw [if_pos rfl] at e0
    rw [if_neg i01] at e1
    simp only [mo_0, mg_0_0, mg_0_1, mg_0_2, mg_0_3, mg_0_4, mg_0_5, mg_0_6, mg_0_7, mg_0_8, mg_0_9, mg_0_10, mg_0_11, Option.bind_some, (hC ..).2.1, if_pos (nI_lt hj (show C.1 < 2 ^ 31 by omega))]
    refine (E_X5_digest_47 ..).trans ?_
    simp only [show (0 : Int32) < 2 by decide, if_true, mo_0, mg_0_0, mg_0_1, mg_0_2, mg_0_3, mg_0_4, mg_0_5, mg_0_6, mg_0_7, mg_0_8, mg_0_9, mg_0_10, mg_0_11, mo_9, Option.bind_some, e0, zcI_some]
    refine (E_X5_digest_47 ..).trans ?_
    simp only [show (0 : Int32) + 1 = 1 by decide, show (1 : Int32) < 2 by decide, if_true, mo_0, mg_0_0, mg_0_1, mg_0_2, mg_0_3, mg_0_4, mg_0_5, mg_0_6, mg_0_7, mg_0_8, mg_0_9, mg_0_10, mg_0_11, mo_9, Option.bind_some, e1, zcI_some]
    refine (E_X5_digest_47 ..).trans ?_
    simp only [show ¬ (1 : Int32) + 1 < 2 by decide, if_false, nI_1]
    rfl
  · refine (E_X5_digest_33 ..).trans ?_
    simp only [mo_0, mg_0_0, mg_0_1, mg_0_2, mg_0_3, mg_0_4, mg_0_5, mg_0_6, mg_0_7, mg_0_8, mg_0_9, mg_0_10, mg_0_11, Option.bind_some, (hC ..).2.1, if_neg (nI_nlt (Nat.le_refl C.1) (show C.1 < 2 ^ 31 by omega))]
  generalize zfd (fun a j => yMx (yMx a (C.2.2.1 j)) (N.2.1 j)) 0 C.1 g1 = g2
  refine (zloop (fun j (a : Int64) => zev r i_X5_digest 85 [some (.ref (r.1 + 0)), some (.long a), none, some (.int (nI j)), none] [] (zmk r c c c2 I J Q N A U V X S t)) (fun a => zev r i_X5_digest 138 [some (.ref (r.1 + 0)), some (.long a), none, some (.int 0), none] [] (zmk r c c c2 I J Q N A U V X S t)) (fun a m => zfd (fun a w => yMx a (sMan C N.1 N.2.2.1 N.2.2.2 m (nI w))) 0 6 a) C.2.1 (fun m a hm => ?_) (fun a => ?_) g2).trans ?_
  · refine (E_X5_digest_85 ..).trans ?_
    simp only [mo_0, mg_0_0, mg_0_1, mg_0_2, mg_0_3, mg_0_4, mg_0_5, mg_0_6, mg_0_7, mg_0_8, mg_0_9, mg_0_10, mg_0_11, Option.bind_some, (hC ..).2.2.1, if_pos (nI_lt6 k hm)]
    refine zloop (fun j (a : Int64) => zev r i_X5_digest 99 [some (.ref (r.1 + 0)), some (.long a), none, some (.int (nI m)), some (.int (nI j))] [] (zmk r c c c2 I J Q N A U V X S t)) (fun a => zev r i_X5_digest 85 [some (.ref (r.1 + 0)), some (.long a), none, some (.int (nI (m + 1))), none] [] (zmk r c c c2 I J Q N A U V X S t)) (fun a w => yMx a (sMan C N.1 N.2.2.1 N.2.2.2 m (nI w))) 6 (fun j a hj => ?_) (fun a => ?_) a
    · refine (E_X5_digest_99 ..).trans ?_
      simp only [if_pos (show nI j < 6 from nI_lt (b := 6) hj (by decide)), mo_0, mg_0_0, mg_0_1, mg_0_2, mg_0_3, mg_0_4, mg_0_5, mg_0_6, mg_0_7, mg_0_8, mg_0_9, mg_0_10, mg_0_11, mo_9, if_true, Option.bind_some, b_man bx k hm, zcI_some, nI_1]
      rfl
    · refine (E_X5_digest_99 ..).trans ?_
      simp only [if_neg (show ¬ nI 6 < 6 by decide), nI_1]
  · refine (E_X5_digest_85 ..).trans ?_
    simp only [mo_0, mg_0_0, mg_0_1, mg_0_2, mg_0_3, mg_0_4, mg_0_5, mg_0_6, mg_0_7, mg_0_8, mg_0_9, mg_0_10, mg_0_11, Option.bind_some, (hC ..).2.2.1, if_neg (nI_nlt6 k)]
  generalize zfd (fun a m => zfd (fun a w => yMx a (sMan C N.1 N.2.2.1 N.2.2.2 m (nI w))) 0 6 a) 0 C.2.1 g2 = g3
  refine (zloop (fun j (a : Int64) => zev r i_X5_digest 138 [some (.ref (r.1 + 0)), some (.long a), none, some (.int (nI j)), none] [] (zmk r c c c2 I J Q N A U V X S t)) (fun a => zev r i_X5_digest 172 [some (.ref (r.1 + 0)), some (.long a), none, some (.int 0), none] [] (zmk r c c c2 I J Q N A U V X S t)) (fun a j => yMx a (I (3 + j))) 3 (fun j a hj => ?_) (fun a => ?_) g3).trans ?_
  · refine (E_X5_digest_138 ..).trans ?_
    simp only [mo_0, mg_0_0, mg_0_1, mg_0_2, mg_0_3, mg_0_4, mg_0_5, mg_0_6, mg_0_7, mg_0_8, mg_0_9, mg_0_10, mg_0_11, mn_21, Option.bind_some, nI_of0, if_pos (nI_lt hj (show 3 < 2 ^ 31 by decide)), mq_21 hj, mgs_k hj, nI_1]
    rfl
  · refine (E_X5_digest_138 ..).trans ?_
    simp only [mo_0, mg_0_0, mg_0_1, mg_0_2, mg_0_3, mg_0_4, mg_0_5, mg_0_6, mg_0_7, mg_0_8, mg_0_9, mg_0_10, mg_0_11, mn_21, Option.bind_some, nI_of0, if_neg (nI_nlt (Nat.le_refl 3) (show 3 < 2 ^ 31 by decide))]
  generalize zfd (fun a j => yMx a (I (3 + j))) 0 3 g3 = g4
  refine (zloop (fun j (a : Int64) => zev r i_X5_digest 172 [some (.ref (r.1 + 0)), some (.long a), none, some (.int (nI j)), none] [] (zmk r c c c2 I J Q N A U V X S t)) (fun a => zev r i_X5_digest 200 [some (.ref (r.1 + 0)), some (.long a), none, some (.int 0), none] [] (zmk r c c c2 I J Q N A U V X S t)) (fun a j => yRw (I (6 + j)) (Q (13 + j)) a) 6 (fun j a hj => ?_) (fun a => ?_) g4).trans ?_
  · refine (E_X5_digest_172 ..).trans ?_
    have e : zev r i_X4_digestedOnto 0 [some (.ref (r.1 + 23 + 2 * j)), some (.long a), none, none, none, none] [] (zmk r c c c2 I J Q N A U V X S t) = some (some (.long (yRw (I (6 + j)) (Q (13 + j)) a)), (zmk r c c c2 I J Q N A U V X S t)) := by
      rcases ro j hj with ⟨s1, -⟩ | ⟨m, hm, s1, -⟩
      · rw [wr_dig1 hj s1, s1]; rfl
      · rw [wr_dig hj s1 (show m ≤ 60 by omega), s1]
        unfold yRw
        rw [if_neg (nI_m1 (show m < 2 ^ 31 by omega)), nI_clamp (show m < 2 ^ 31 by omega)]
        rfl
    simp only [mo_0, mg_0_0, mg_0_1, mg_0_2, mg_0_3, mg_0_4, mg_0_5, mg_0_6, mg_0_7, mg_0_8, mg_0_9, mg_0_10, mg_0_11, mn_1, Option.bind_some, nI_of0, if_pos (nI_lt hj (show 6 < 2 ^ 31 by decide)), mq_1 hj, mo_r hj, if_true, e, zcL_some, nI_1]
  · refine (E_X5_digest_172 ..).trans ?_
    simp only [mo_0, mg_0_0, mg_0_1, mg_0_2, mg_0_3, mg_0_4, mg_0_5, mg_0_6, mg_0_7, mg_0_8, mg_0_9, mg_0_10, mg_0_11, mn_1, Option.bind_some, nI_of0, if_neg (nI_nlt (Nat.le_refl 6) (show 6 < 2 ^ 31 by decide))]
  generalize zfd (fun a j => yRw (I (6 + j)) (Q (13 + j)) a) 0 6 g4 = g5
  refine zloop (fun j (a : Int64) => zev r i_X5_digest 200 [some (.ref (r.1 + 0)), some (.long a), none, some (.int (nI j)), none] [] (zmk r c c c2 I J Q N A U V X S t)) (fun a => some (some (.long a), (zmk r c c c2 I J Q N A U V X S t))) (fun a j => yRw (I (12 + j)) (Q (19 + j)) a) 4 (fun j a hj => ?_) (fun a => ?_) g5
  · refine (E_X5_digest_200 ..).trans ?_
    have e : zev r i_X4_digestedOnto 0 [some (.ref (r.1 + 35 + 2 * j)), some (.long a), none, none, none, none] [] (zmk r c c c2 I J Q N A U V X S t) = some (some (.long (yRw (I (12 + j)) (Q (19 + j)) a)), (zmk r c c c2 I J Q N A U V X S t)) := by
      rcases te j hj with ⟨s1, -⟩ | ⟨m, hm, s1, -⟩
      · rw [wt_dig1 hj s1, s1]; rfl
      · rw [wt_dig hj s1 (show m ≤ 60 by omega), s1]
        unfold yRw
        rw [if_neg (nI_m1 (show m < 2 ^ 31 by omega)), nI_clamp (show m < 2 ^ 31 by omega)]
        rfl
    simp only [mo_0, mg_0_0, mg_0_1, mg_0_2, mg_0_3, mg_0_4, mg_0_5, mg_0_6, mg_0_7, mg_0_8, mg_0_9, mg_0_10, mg_0_11, mn_2, Option.bind_some, nI_of0, if_pos (nI_lt hj (show 4 < 2 ^ 31 by decide)), mq_2 hj, mo_t hj, if_true, e, zcL_some, nI_1]
  · refine (E_X5_digest_200 ..).trans ?_
    simp only [mo_0, mg_0_0, mg_0_1, mg_0_2, mg_0_3, mg_0_4, mg_0_5, mg_0_6, mg_0_7, mg_0_8, mg_0_9, mg_0_10, mg_0_11, mn_2, Option.bind_some, nI_of0, if_neg (nI_nlt (Nat.le_refl 4) (show 4 < 2 ^ 31 by decide))]
theorem m_digest (iv : zIv r C c I J Q N U V X t) : zev r i_X6_digest 0 [some (.ref (r.1 + 49)), none, none, none, none] [] (zmk r c c c2 I J Q N A U V X S t) = some (some (.long (yDg C I Q N)), (zmk r c c c2 I J Q N A U V X S t)) := by
  obtain ⟨k, hC, mv, to, ro, te, no, lo, ke⟩ := id iv
  have k1 := k.1
  have k2 := k.2.1
  rw [E_X6_digest_0]
  refine (zloop (fun j (a : Int64) => zev r i_X6_digest 6 [some (.ref (r.1 + 49)), some (.long a), none, some (.int (nI j)), none] [] (zmk r c c c2 I J Q N A U V X S t)) (fun a => zev r i_X6_digest 33 [some (.ref (r.1 + 49)), some (.long a), none, some (.int 0), none] [] (zmk r c c c2 I J Q N A U V X S t)) (fun a w => yMx a (yCn C I N w)) 9 (fun j a hj => ?_) (fun a => ?_) 17).trans ?_
  · refine (E_X6_digest_6 ..).trans ?_
    simp only [if_pos (show nI j < 9 from nI_lt (b := 9) hj (by decide)), mo_49, mg_49_0, mg_49_1, mg_49_2, mg_49_3, mg_49_4, mg_49_5, mg_49_6, mg_49_7, mg_49_8, mg_49_9, mg_49_10, mg_49_11, mg_49_12, mg_49_13, mg_49_14, mg_49_15, mg_49_16, mg_49_17, mg_49_18, mg_49_19, mg_49_20, mg_49_21, mg_49_22, mg_49_23, mg_49_24, mg_49_25, if_true, m_counted iv hj, zcI_some, nI_1]
    rfl
  · refine (E_X6_digest_6 ..).trans ?_
    rw [if_neg (show ¬ nI 9 < 9 by decide)]
  unfold yDg
  generalize zfd (fun a w => yMx a (yCn C I N w)) 0 9 17 = g1
  refine (zloop (fun j (a : Int64) => zev r i_X6_digest 33 [some (.ref (r.1 + 49)), some (.long a), none, some (.int (nI j)), none] [] (zmk r c c c2 I J Q N A U V X S t)) (fun a => zev r i_X6_digest 76 [some (.ref (r.1 + 49)), some (.long a), none, some (.int 0), none] [] (zmk r c c c2 I J Q N A U V X S t)) (fun a j => yMx (yMx a (C.2.2.1 j)) (N.2.1 j)) C.1 (fun j a hj => ?_) (fun a => ?_) g1).trans ?_
  · refine (E_X6_digest_33 ..).trans ?_
    have es : sWho (fun m => X 0 (1 + m)) (nI j) 0 C.2.1 = N.2.1 j := who_g no.1 k (fun q hq => ((no.2.2 q hq).1).symm) hj
    simp only [mo_49, mg_49_0, mg_49_1, mg_49_2, mg_49_3, mg_49_4, mg_49_5, mg_49_6, mg_49_7, mg_49_8, mg_49_9, mg_49_10, mg_49_11, mg_49_12, mg_49_13, mg_49_14, mg_49_15, mg_49_16, mg_49_17, mg_49_18, mg_49_19, mg_49_20, mg_49_21, mg_49_22, mg_49_23, mg_49_24, mg_49_25, Option.bind_some, mv.1, mv.2.2.1, if_pos (nI_lt hj (show C.1 < 2 ^ 31 by omega)), ma_51 (show j < 7 by omega), if_true, m_who mv k, es, zcI_some, nI_1]
    rfl
  · refine (E_X6_digest_33 ..).trans ?_
    simp only [mo_49, mg_49_0, mg_49_1, mg_49_2, mg_49_3, mg_49_4, mg_49_5, mg_49_6, mg_49_7, mg_49_8, mg_49_9, mg_49_10, mg_49_11, mg_49_12, mg_49_13, mg_49_14, mg_49_15, mg_49_16, mg_49_17, mg_49_18, mg_49_19, mg_49_20, mg_49_21, mg_49_22, mg_49_23, mg_49_24, mg_49_25, Option.bind_some, mv.1, if_neg (nI_nlt (Nat.le_refl C.1) (show C.1 < 2 ^ 31 by omega))]
  generalize zfd (fun a j => yMx (yMx a (C.2.2.1 j)) (N.2.1 j)) 0 C.1 g1 = g2
  have e6 : (6 : Int32) * U 1 = nI (6 * C.2.1) := by rw [mv.2.1, show (6 : Int32) = nI 6 from rfl, pk_mul]
  refine (zloop (fun j (a : Int64) => zev r i_X6_digest 76 [some (.ref (r.1 + 49)), some (.long a), none, some (.int (nI j)), none] [] (zmk r c c c2 I J Q N A U V X S t)) (fun a => zev r i_X6_digest 115 [some (.ref (r.1 + 49)), some (.long a), none, some (.int 1), none] [] (zmk r c c c2 I J Q N A U V X S t)) (fun a j => yMx a (sMan C N.1 N.2.2.1 N.2.2.2 (j / 6) (nI (j % 6)))) (6 * C.2.1) (fun j a hj => ?_) (fun a => ?_) g2).trans ?_
  · refine (E_X6_digest_76 ..).trans ?_
    have ed : nI j / 6 = nI (j / 6) := pk_div (d := 6) (by omega) (by decide) (by decide)
    have er : nI j - nI j / 6 * 6 = nI (j % 6) := pk_rem (d := 6) (by omega) (by decide) (by decide)
    have es : ∀ i, sMan C (fun m => X 0 (1 + m)) (fun m => X 0 (7 + m)) (fun m => X 0 (13 + m)) (j / 6) i = sMan C N.1 N.2.2.1 N.2.2.2 (j / 6) i := fun i => by
      obtain ⟨b1, b2, b3⟩ := no.2.2 (j / 6) (by omega)
      unfold sMan
      rw [b1, b2, b3]
    rw [er, ed]
    simp only [mo_49, mg_49_0, mg_49_1, mg_49_2, mg_49_3, mg_49_4, mg_49_5, mg_49_6, mg_49_7, mg_49_8, mg_49_9, mg_49_10, mg_49_11, mg_49_12, mg_49_13, mg_49_14, mg_49_15, mg_49_16, mg_49_17, mg_49_18, mg_49_19, mg_49_20, mg_49_21, mg_49_22, mg_49_23, mg_49_24, mg_49_25, Option.bind_some, e6, if_pos (nI_lt hj (show 6 * C.2.1 < 2 ^ 31 by omega)), show ¬ (6 : Int32) = 0 by decide, if_false, if_true, m_told mv k (show j / 6 < C.2.1 by omega), es, zcI_some, nI_1]
    rfl
  · refine (E_X6_digest_76 ..).trans ?_
    simp only [mo_49, mg_49_0, mg_49_1, mg_49_2, mg_49_3, mg_49_4, mg_49_5, mg_49_6, mg_49_7, mg_49_8, mg_49_9, mg_49_10, mg_49_11, mg_49_12, mg_49_13, mg_49_14, mg_49_15, mg_49_16, mg_49_17, mg_49_18, mg_49_19, mg_49_20, mg_49_21, mg_49_22, mg_49_23, mg_49_24, mg_49_25, Option.bind_some, e6, if_neg (nI_nlt (Nat.le_refl (6 * C.2.1)) (show 6 * C.2.1 < 2 ^ 31 by omega))]
  rw [zfd_mul 6]
  rw [show zfd (fun a m => zfd (fun (a : Int64) w => yMx a (sMan C N.1 N.2.2.1 N.2.2.2 ((6 * m + w) / 6) (nI ((6 * m + w) % 6)))) 0 6 a) 0 C.2.1 g2 = zfd (fun a m => zfd (fun a w => yMx a (sMan C N.1 N.2.2.1 N.2.2.2 m (nI w))) 0 6 a) 0 C.2.1 g2 from zfd_congr fun s m _ _ => zfd_congr fun a w _ hw => by
    rw [show (6 * m + w) / 6 = m by omega, show (6 * m + w) % 6 = w by omega]]
  generalize zfd (fun a m => zfd (fun a w => yMx a (sMan C N.1 N.2.2.1 N.2.2.2 m (nI w))) 0 6 a) 0 C.2.1 g2 = g3
  refine (zloop (fun j (a : Int64) => zev r i_X6_digest 115 [some (.ref (r.1 + 49)), some (.long a), none, some (.int (nI (1 + j))), none] [] (zmk r c c c2 I J Q N A U V X S t)) (fun a => zev r i_X6_digest 148 [some (.ref (r.1 + 49)), some (.long a), none, some (.int 0), none] [] (zmk r c c c2 I J Q N A U V X S t)) (fun a j => yMx a (I (3 + j))) 3 (fun j a hj => ?_) (fun a => ?_) g3).trans ?_
  · refine (E_X6_digest_115 ..).trans ?_
    have eb : (1099 : Int32) * nI (1 + j) + 0 = nI (1099 * (1 + j)) := by rw [show (1099 : Int32) = nI 1099 from rfl, pk_mul, Int32.add_zero]
    simp only [if_pos (show nI (1 + j) < 4 from nI_lt (b := 4) (by omega) (by decide)), mo_49, mg_49_0, mg_49_1, mg_49_2, mg_49_3, mg_49_4, mg_49_5, mg_49_6, mg_49_7, mg_49_8, mg_49_9, mg_49_10, mg_49_11, mg_49_12, mg_49_13, mg_49_14, mg_49_15, mg_49_16, mg_49_17, mg_49_18, mg_49_19, mg_49_20, mg_49_21, mg_49_22, mg_49_23, mg_49_24, mg_49_25, Option.bind_some, eb, ma_50 (show 1099 * (1 + j) < 4396 by omega), (ke_lt ke hj).1, nI_1, show 1 + j + 1 = 1 + (j + 1) by omega]
    rfl
  · refine (E_X6_digest_115 ..).trans ?_
    simp only [if_neg (show ¬ nI (1 + 3) < 4 by decide)]
  generalize zfd (fun a j => yMx a (I (3 + j))) 0 3 g3 = g4
  refine (zloop (fun j (a : Int64) => zev r i_X6_digest 148 [some (.ref (r.1 + 49)), some (.long a), none, some (.int (nI j)), none] [] (zmk r c c c2 I J Q N A U V X S t)) (fun a => zev r i_X6_digest 216 [some (.ref (r.1 + 49)), some (.long a), none, some (.int 0), none] [] (zmk r c c c2 I J Q N A U V X S t)) (fun a j => yRw (I (6 + j)) (Q (13 + j)) a) 6 (fun j a hj => ?_) (fun a => ?_) g4).trans ?_
  · refine (E_X6_digest_148 ..).trans ?_
    simp only [if_pos (show nI j < 6 from nI_lt (b := 6) hj (by decide)), mo_49, mg_49_0, mg_49_1, mg_49_2, mg_49_3, mg_49_4, mg_49_5, mg_49_6, mg_49_7, mg_49_8, mg_49_9, mg_49_10, mg_49_11, mg_49_12, mg_49_13, mg_49_14, mg_49_15, mg_49_16, mg_49_17, mg_49_18, mg_49_19, mg_49_20, mg_49_21, mg_49_22, mg_49_23, mg_49_24, mg_49_25, Option.bind_some, ma_55 hj]
    rcases ro j hj with ⟨s1, s2⟩ | ⟨m, hm, s1, s2, s3⟩
    · refine (E_X6_digest_171 ..).trans ?_
      simp only [mo_49, mg_49_0, mg_49_1, mg_49_2, mg_49_3, mg_49_4, mg_49_5, mg_49_6, mg_49_7, mg_49_8, mg_49_9, mg_49_10, mg_49_11, mg_49_12, mg_49_13, mg_49_14, mg_49_15, mg_49_16, mg_49_17, mg_49_18, mg_49_19, mg_49_20, mg_49_21, mg_49_22, mg_49_23, mg_49_24, mg_49_25, Option.bind_some, ma_55 hj, s2, show ¬ (0 : Int32) < -1 by decide, if_false, nI_1, s1]
      rfl
    · refine (zloop (fun i (a : Int64) => zev r i_X6_digest 171 [some (.ref (r.1 + 49)), some (.long a), none, some (.int (nI j)), some (.int (nI i))] [] (zmk r c c c2 I J Q N A U V X S t)) (fun a => zev r i_X6_digest 148 [some (.ref (r.1 + 49)), some (.long a), none, some (.int (nI (j + 1))), none] [] (zmk r c c c2 I J Q N A U V X S t)) (fun a i => yMx a (Q (13 + j) i)) m (fun i a hi => ?_) (fun a => ?_) _).trans ?_
      · refine (E_X6_digest_171 ..).trans ?_
        have e40 : (40 : Int32) * nI j + nI i = nI (40 * j + i) := by rw [show (40 : Int32) = nI 40 from rfl, pk_mul, nI_add]
        simp only [mo_49, mg_49_0, mg_49_1, mg_49_2, mg_49_3, mg_49_4, mg_49_5, mg_49_6, mg_49_7, mg_49_8, mg_49_9, mg_49_10, mg_49_11, mg_49_12, mg_49_13, mg_49_14, mg_49_15, mg_49_16, mg_49_17, mg_49_18, mg_49_19, mg_49_20, mg_49_21, mg_49_22, mg_49_23, mg_49_24, mg_49_25, Option.bind_some, ma_55 hj, s2, if_pos (nI_lt hi (show m < 2 ^ 31 by omega)), e40, ma_56 (show 40 * j + i < 240 by omega), nI_1, s3 i hi]
        rfl
      · refine (E_X6_digest_171 ..).trans ?_
        simp only [mo_49, mg_49_0, mg_49_1, mg_49_2, mg_49_3, mg_49_4, mg_49_5, mg_49_6, mg_49_7, mg_49_8, mg_49_9, mg_49_10, mg_49_11, mg_49_12, mg_49_13, mg_49_14, mg_49_15, mg_49_16, mg_49_17, mg_49_18, mg_49_19, mg_49_20, mg_49_21, mg_49_22, mg_49_23, mg_49_24, mg_49_25, Option.bind_some, ma_55 hj, s2, if_neg (nI_nlt (Nat.le_refl m) (show m < 2 ^ 31 by omega)), nI_1]
      · rw [s1, s2]
        unfold yRw
        rw [if_neg (nI_m1 (show m < 2 ^ 31 by omega)), nI_clamp (show m < 2 ^ 31 by omega)]
        rfl
  · refine (E_X6_digest_148 ..).trans ?_
    rw [if_neg (show ¬ nI 6 < 6 by decide)]
  generalize zfd (fun a j => yRw (I (6 + j)) (Q (13 + j)) a) 0 6 g4 = g5
  refine zloop (fun j (a : Int64) => zev r i_X6_digest 216 [some (.ref (r.1 + 49)), some (.long a), none, some (.int (nI j)), none] [] (zmk r c c c2 I J Q N A U V X S t)) (fun a => some (some (.long a), (zmk r c c c2 I J Q N A U V X S t))) (fun a j => yRw (I (12 + j)) (Q (19 + j)) a) 4 (fun j a hj => ?_) (fun a => ?_) g5
  · refine (E_X6_digest_216 ..).trans ?_
    simp only [if_pos (show nI j < 4 from nI_lt (b := 4) hj (by decide)), mo_49, mg_49_0, mg_49_1, mg_49_2, mg_49_3, mg_49_4, mg_49_5, mg_49_6, mg_49_7, mg_49_8, mg_49_9, mg_49_10, mg_49_11, mg_49_12, mg_49_13, mg_49_14, mg_49_15, mg_49_16, mg_49_17, mg_49_18, mg_49_19, mg_49_20, mg_49_21, mg_49_22, mg_49_23, mg_49_24, mg_49_25, Option.bind_some, ma_57 hj]
    rcases te j hj with ⟨s1, s2⟩ | ⟨m, hm, s1, s2, s3⟩
    · refine (E_X6_digest_238 ..).trans ?_
      simp only [mo_49, mg_49_0, mg_49_1, mg_49_2, mg_49_3, mg_49_4, mg_49_5, mg_49_6, mg_49_7, mg_49_8, mg_49_9, mg_49_10, mg_49_11, mg_49_12, mg_49_13, mg_49_14, mg_49_15, mg_49_16, mg_49_17, mg_49_18, mg_49_19, mg_49_20, mg_49_21, mg_49_22, mg_49_23, mg_49_24, mg_49_25, Option.bind_some, ma_57 hj, s2, show ¬ (0 : Int32) < -1 by decide, if_false, nI_1, s1]
      rfl
    · refine (zloop (fun i (a : Int64) => zev r i_X6_digest 238 [some (.ref (r.1 + 49)), some (.long a), none, some (.int (nI j)), some (.int (nI i))] [] (zmk r c c c2 I J Q N A U V X S t)) (fun a => zev r i_X6_digest 216 [some (.ref (r.1 + 49)), some (.long a), none, some (.int (nI (j + 1))), none] [] (zmk r c c c2 I J Q N A U V X S t)) (fun a i => yMx a (Q (19 + j) i)) m (fun i a hi => ?_) (fun a => ?_) _).trans ?_
      · refine (E_X6_digest_238 ..).trans ?_
        have e60 : (60 : Int32) * nI j + nI i = nI (60 * j + i) := by rw [show (60 : Int32) = nI 60 from rfl, pk_mul, nI_add]
        simp only [mo_49, mg_49_0, mg_49_1, mg_49_2, mg_49_3, mg_49_4, mg_49_5, mg_49_6, mg_49_7, mg_49_8, mg_49_9, mg_49_10, mg_49_11, mg_49_12, mg_49_13, mg_49_14, mg_49_15, mg_49_16, mg_49_17, mg_49_18, mg_49_19, mg_49_20, mg_49_21, mg_49_22, mg_49_23, mg_49_24, mg_49_25, Option.bind_some, ma_57 hj, s2, if_pos (nI_lt hi (show m < 2 ^ 31 by omega)), e60, ma_58 (show 60 * j + i < 240 by omega), nI_1, s3 i hi]
        rfl
      · refine (E_X6_digest_238 ..).trans ?_
        simp only [mo_49, mg_49_0, mg_49_1, mg_49_2, mg_49_3, mg_49_4, mg_49_5, mg_49_6, mg_49_7, mg_49_8, mg_49_9, mg_49_10, mg_49_11, mg_49_12, mg_49_13, mg_49_14, mg_49_15, mg_49_16, mg_49_17, mg_49_18, mg_49_19, mg_49_20, mg_49_21, mg_49_22, mg_49_23, mg_49_24, mg_49_25, Option.bind_some, ma_57 hj, s2, if_neg (nI_nlt (Nat.le_refl m) (show m < 2 ^ 31 by omega)), nI_1]
      · rw [s1, s2]
        unfold yRw
        rw [if_neg (nI_m1 (show m < 2 ^ 31 by omega)), nI_clamp (show m < 2 ^ 31 by omega)]
        rfl
  · refine (E_X6_digest_216 ..).trans ?_
    rw [if_neg (show ¬ nI 4 < 4 by decide)]
theorem lk_digest (E : zEk r) {h : zH} (st : zSt r n h) : zBothL r n n (zev r i_X5_digest 0 [some (.ref (r.1 + 0)), none, none, none, none] []) (zev r i_X6_digest 0 [some (.ref (r.1 + 49)), none, none, none, none] []) h := by
  obtain ⟨C, c, c2, I, J, Q, N, A, U, V, X, S, t, rfl, iv, t1, t2⟩ := st
  exact bothL (k_digest E iv) (m_digest iv) (st_mk iv t1 t2)
end DIGEST
