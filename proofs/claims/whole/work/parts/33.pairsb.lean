/-! COPY, MEAN, TEXT, PUT: both alike -/
section PAIRS2
variable {r : zE} {c0 c1 c2 : Nat} {I : Nat → Int32} {J : Nat → Int64} {Q : Nat → Nat → Int32} {N A : zBr} {U : Nat → Int32} {V : Nat → Int64} {X : Nat → Nat → Int32} {S : zSs} {t : zH} {C : zCs} {c n : Nat}
theorem lg_gt {a b : Int64} : 0 < lg_cmp a b ↔ b < a := by
  unfold lg_cmp
  by_cases c : a > b
  · rw [if_pos c]; exact ⟨fun _ => c, fun _ => by decide⟩
  · rw [if_neg c]
    refine ⟨fun q => ?_, fun q => absurd q c⟩
    split at q <;> exact absurd q (by decide)
theorem m_span {j m : Nat} (hj : j < 6) (hm : m ≤ 60) (e : X 5 j = nI m) (i k : Int32) (hk : ¬ k < 0) : zev r i_X6_isSpan 0 [some (.ref (r.1 + 49)), some (.int (nI j)), some (.int i), some (.int k)] [] (zmk r c0 c1 c2 I J Q N A U V X S t) = some (some (.int (zsp m i k)), zmk r c0 c1 c2 I J Q N A U V X S t) := by
  simp only [E_X6_isSpan_0, mo_49, mg_49_0, mg_49_1, mg_49_2, mg_49_3, mg_49_4, mg_49_5, mg_49_6, mg_49_7, mg_49_8, mg_49_9, mg_49_10, mg_49_11, mg_49_12, mg_49_13, mg_49_14, mg_49_15, mg_49_16, mg_49_17, mg_49_18, mg_49_19, mg_49_20, mg_49_21, mg_49_22, mg_49_23, mg_49_24, mg_49_25, Option.bind_some, ma_55 hj, e, lg_gt, zsp]
  by_cases h : i < 0
  · rw [if_pos h, if_pos h]
  · rw [if_neg h, if_neg h]
    obtain ⟨a, ha, rfl⟩ := nI_of h
    obtain ⟨b, hb, rfl⟩ := nI_of hk
    rw [nI_l ha, nI_l hb, nI_l (show m < 2 ^ 31 by omega), lN_add]
    by_cases h2 : m < a
    · rw [if_pos ((pk_lLT (show m < 2 ^ 63 by omega) (show a + b < 2 ^ 63 by omega)).mpr (by omega)), if_pos (nI_lt h2 ha)]
    · rw [if_neg (nI_nlt (a := m) (b := a) (by omega) (by omega)), if_neg hk, pk_sub (show a ≤ m by omega)]
      by_cases h3 : m - a < b
      · rw [if_pos ((pk_lLT (show m < 2 ^ 63 by omega) (show a + b < 2 ^ 63 by omega)).mpr (by omega)), if_pos (nI_lt h3 hb)]
      · rw [if_neg (fun q => h3 (by have := (pk_lLT (show m < 2 ^ 63 by omega) (show a + b < 2 ^ 63 by omega)).mp q; omega)), if_neg (nI_nlt (a := m - a) (b := b) (by omega) (by omega))]
theorem m_cpy {j k i d m : Nat} (hj : j < 6) (hk : k < 6) (hi : i + m ≤ 40) (hd : d + m ≤ 40) (b : Int32) (hb : (b = 1 ∧ i < d) ∨ (b = 0 ∧ d ≤ i)) :
    zev r i_X6_copy 96 [some (.ref (r.1 + 49)), some (.int (nI j)), some (.int (nI i)), some (.int (nI k)), some (.int (nI d)), some (.int (nI m)), some (.int b), some (.int 0), none] [] (zmk r c0 c1 c2 I J Q N A U V X S t) = some (some (.int 1), (zmk r c0 c1 c2 I J Q N A U V (va_up X 6 (va_cpy (X 6) (X 6) (40 * j + i) (40 * k + d) m)) S t)) := by
  have hs : ∀ p x : Nat, p < 6 → (40 : Int32) * nI p + nI x = nI (40 * p + x) := fun p x _ => by rw [show (40 : Int32) = nI 40 from rfl, pk_mul, nI_add]
  rcases hb with ⟨rfl, hlt⟩ | ⟨rfl, hle⟩
  · have := zloopP (fun q (f : zA) => f = fun x => if 40 * k + d + m - q ≤ x ∧ x < 40 * k + d + m then X 6 (40 * j + i + (x - (40 * k + d))) else X 6 x) (fun q (f : zA) => zev r i_X6_copy 96 [some (.ref (r.1 + 49)), some (.int (nI j)), some (.int (nI i)), some (.int (nI k)), some (.int (nI d)), some (.int (nI m)), some (.int 1), some (.int (nI q)), none] [] (zmk r c0 c1 c2 I J Q N A U V (va_up X 6 f) S t)) (fun f => some (some (.int 1), (zmk r c0 c1 c2 I J Q N A U V (va_up X 6 f) S t))) (fun f q => upd f (40 * k + d + (m - 1 - q)) (f (40 * j + i + (m - 1 - q)))) m (fun q f hq p => by
      refine ⟨(E_X6_copy_96 ..).trans ?_, ?_⟩
      · rw [if_pos (nI_lt hq (by omega)), if_neg i01, E_X6_copy_120]
        have e1 : nI m - 1 - nI q = nI (m - 1 - q) := by rw [show (1 : Int32) = nI 1 from rfl, pk_sub (by omega), pk_sub (by omega)]
        simp only [mo_49, mg_49_0, mg_49_1, mg_49_2, mg_49_3, mg_49_4, mg_49_5, mg_49_6, mg_49_7, mg_49_8, mg_49_9, mg_49_10, mg_49_11, mg_49_12, mg_49_13, mg_49_14, mg_49_15, mg_49_16, mg_49_17, mg_49_18, mg_49_19, mg_49_20, mg_49_21, mg_49_22, mg_49_23, mg_49_24, mg_49_25, Option.bind_some, e1, hs j i hj, hs k d hk, nI_add, ma_56 (show 40 * j + i + (m - 1 - q) < 240 by omega), mw_56 (show 40 * k + d + (m - 1 - q) < 240 by omega), va_same, bx_uu, nI_1]
      · subst p
        funext x
        show upd _ _ _ x = _
        unfold upd
        dsimp only
        by_cases e : x = 40 * k + d + (m - 1 - q)
        · subst e
          rw [if_pos rfl, if_neg (by omega), if_pos (by omega)]
          congr 1
          omega
        · rw [if_neg e]
          by_cases e2 : 40 * k + d + m - q ≤ x ∧ x < 40 * k + d + m
          · rw [if_pos e2, if_pos (by omega)]
          · rw [if_neg e2, if_neg (by omega)]) (fun f _ => by
      refine (E_X6_copy_96 ..).trans ?_
      rw [if_neg (nI_nlt (Nat.le_refl m) (show m < 2 ^ 31 by omega))]) (X 6) (by
      funext x
      rw [if_neg (by omega)])
    rw [va_self, this.2] at this
    refine this.1.trans ?_
    congr 3
    congr 1
    funext x
    unfold va_cpy
    by_cases e2 : 40 * k + d ≤ x ∧ x < 40 * k + d + m
    · rw [if_pos e2, if_pos (by omega)]
    · rw [if_neg e2, if_neg (by omega)]
  · have := zloopP (fun q (f : zA) => f = fun x => if 40 * k + d ≤ x ∧ x < 40 * k + d + q then X 6 (40 * j + i + (x - (40 * k + d))) else X 6 x) (fun q (f : zA) => zev r i_X6_copy 96 [some (.ref (r.1 + 49)), some (.int (nI j)), some (.int (nI i)), some (.int (nI k)), some (.int (nI d)), some (.int (nI m)), some (.int 0), some (.int (nI q)), none] [] (zmk r c0 c1 c2 I J Q N A U V (va_up X 6 f) S t)) (fun f => some (some (.int 1), (zmk r c0 c1 c2 I J Q N A U V (va_up X 6 f) S t))) (fun f q => upd f (40 * k + d + q) (f (40 * j + i + q))) m (fun q f hq p => by
      refine ⟨(E_X6_copy_96 ..).trans ?_, ?_⟩
      · rw [if_pos (nI_lt hq (by omega)), if_pos rfl, E_X6_copy_120]
        simp only [mo_49, mg_49_0, mg_49_1, mg_49_2, mg_49_3, mg_49_4, mg_49_5, mg_49_6, mg_49_7, mg_49_8, mg_49_9, mg_49_10, mg_49_11, mg_49_12, mg_49_13, mg_49_14, mg_49_15, mg_49_16, mg_49_17, mg_49_18, mg_49_19, mg_49_20, mg_49_21, mg_49_22, mg_49_23, mg_49_24, mg_49_25, Option.bind_some, hs j i hj, hs k d hk, nI_add, ma_56 (show 40 * j + i + q < 240 by omega), mw_56 (show 40 * k + d + q < 240 by omega), va_same, bx_uu, nI_1]
      · subst p
        funext x
        show upd _ _ _ x = _
        unfold upd
        dsimp only
        by_cases e : x = 40 * k + d + q
        · subst e
          rw [if_pos rfl, if_neg (by omega), if_pos (by omega)]
          congr 1
          omega
        · rw [if_neg e]
          by_cases e2 : 40 * k + d ≤ x ∧ x < 40 * k + d + q
          · rw [if_pos e2, if_pos (by omega)]
          · rw [if_neg e2, if_neg (by omega)]) (fun f _ => by
      refine (E_X6_copy_96 ..).trans ?_
      rw [if_neg (nI_nlt (Nat.le_refl m) (show m < 2 ^ 31 by omega))]) (X 6) (by
      funext x
      rw [if_neg (by omega)])
    rw [va_self, this.2] at this
    exact this.1
theorem lk_copy (a b a2 b2 k0 : Int32) {h : zH} (st : zSt r n h) : zBoth r n n (zev r i_X5_copy 0 [some (.ref (r.1 + 0)), some (.int a), some (.int b), some (.int a2), some (.int b2), some (.int k0), none, none] []) (zev r i_X6_copy 0 [some (.ref (r.1 + 49)), some (.int a), some (.int b), some (.int a2), some (.int b2), some (.int k0), none, none, none] []) h := by
  obtain ⟨C, c, c2, I, J, Q, N, A, U, V, X, S, t, rfl, iv, t1, t2⟩ := st
  rcases zhk_cases 6 (by decide) a with e | ⟨e, j, hj, rfl⟩
  · refine both (v := (-1)) (h1 := (zmk r c c c2 I J Q N A U V X S t)) (h2 := (zmk r c c c2 I J Q N A U V X S t)) ?_ ?_ (st_mk iv t1 t2)
    · rcases zhk_cases 6 (by decide) a2 with f | ⟨f, j, hj, rfl⟩
      · simp only [E_X5_copy_0, mo_0, mg_0_0, mg_0_1, mg_0_2, mg_0_3, mg_0_4, mg_0_5, mg_0_6, mg_0_7, mg_0_8, mg_0_9, mg_0_10, mg_0_11, if_true, k_rowAt, e, f, zcQ_null]
      · simp only [E_X5_copy_0, mo_0, mg_0_0, mg_0_1, mg_0_2, mg_0_3, mg_0_4, mg_0_5, mg_0_6, mg_0_7, mg_0_8, mg_0_9, mg_0_10, mg_0_11, if_true, k_rowAt, e, f, i01, if_false, zcQ_null, zcQ_ref]
    · simp only [E_X6_copy_0, m_row, e, if_true, zcI_some]
  rcases zhk_cases 6 (by decide) a2 with f | ⟨f, k, hk, rfl⟩
  · refine both (v := (-1)) (h1 := (zmk r c c c2 I J Q N A U V X S t)) (h2 := (zmk r c c c2 I J Q N A U V X S t)) ?_ ?_ (st_mk iv t1 t2)
    · simp only [E_X5_copy_0, mo_0, mg_0_0, mg_0_1, mg_0_2, mg_0_3, mg_0_4, mg_0_5, mg_0_6, mg_0_7, mg_0_8, mg_0_9, mg_0_10, mg_0_11, if_true, k_rowAt, e, f, i01, if_false, zcQ_null, zcQ_ref]
    · simp only [E_X6_copy_0, m_row, e, f, if_true, i01, if_false, zcI_some]
  have cj := nI_clamp (show j < 2 ^ 31 by omega)
  have ck := nI_clamp (show k < 2 ^ 31 by omega)
  by_cases c0 : k0 < 0
  · refine both (v := (-3)) (h1 := (zmk r c c c2 (va_up I 1 (nI 5)) J (va_up Q 0 (upd (Q 0) 5 (Q 0 5 + 1))) N A U V X S t)) (h2 := (zmk r c c c2 (va_up I 1 (nI 5)) J (va_up Q 0 (upd (Q 0) 5 (Q 0 5 + 1))) N A (va_up U 3 (nI 5)) V (va_up X 9 (upd (X 9) 5 (X 9 5 + 1))) S t)) ?_ ?_ (st_mk (iv_found 5 iv (by decide) (by decide)) t1 t2)
    · simp only [E_X5_copy_0, mo_0, mg_0_0, mg_0_1, mg_0_2, mg_0_3, mg_0_4, mg_0_5, mg_0_6, mg_0_7, mg_0_8, mg_0_9, mg_0_10, mg_0_11, if_true, k_rowAt, e, f, i01, if_false, zcQ_ref, c0, k_f5, zcI_some]
    · simp only [E_X6_copy_0, mo_49, mg_49_0, mg_49_1, mg_49_2, mg_49_3, mg_49_4, mg_49_5, mg_49_6, mg_49_7, mg_49_8, mg_49_9, mg_49_10, mg_49_11, mg_49_12, mg_49_13, mg_49_14, mg_49_15, mg_49_16, mg_49_17, mg_49_18, mg_49_19, mg_49_20, mg_49_21, mg_49_22, mg_49_23, mg_49_24, mg_49_25, m_row, e, f, if_true, i01, if_false, zcI_some, c0, m_f5]
  rcases iv.2.2.2.2.1 j hj with ⟨s1, s2⟩ | ⟨m, hm, s1, s2, s3⟩
  · refine both (v := (-3)) (h1 := (zmk r c c c2 (va_up I 1 (nI 1)) J (va_up Q 0 (upd (Q 0) 1 (Q 0 1 + 1))) N A U V X S t)) (h2 := (zmk r c c c2 (va_up I 1 (nI 1)) J (va_up Q 0 (upd (Q 0) 1 (Q 0 1 + 1))) N A (va_up U 3 (nI 1)) V (va_up X 9 (upd (X 9) 1 (X 9 1 + 1))) S t)) ?_ ?_ (st_mk (iv_found 1 iv (by decide) (by decide)) t1 t2)
    · simp only [E_X5_copy_0, mo_0, mg_0_0, mg_0_1, mg_0_2, mg_0_3, mg_0_4, mg_0_5, mg_0_6, mg_0_7, mg_0_8, mg_0_9, mg_0_10, mg_0_11, if_true, k_rowAt, e, f, i01, if_false, zcQ_ref, c0, cj, ck, mo_r hj, wr_miss hj, s1, k_f1, zcI_some]
    · simp only [E_X6_copy_0, mo_49, mg_49_0, mg_49_1, mg_49_2, mg_49_3, mg_49_4, mg_49_5, mg_49_6, mg_49_7, mg_49_8, mg_49_9, mg_49_10, mg_49_11, mg_49_12, mg_49_13, mg_49_14, mg_49_15, mg_49_16, mg_49_17, mg_49_18, mg_49_19, mg_49_20, mg_49_21, mg_49_22, mg_49_23, mg_49_24, mg_49_25, m_row, e, f, if_true, i01, if_false, zcI_some, c0, Option.bind_some, ma_55 hj, s2, show (-1 : Int32) < 0 from by decide, m_f1]
  rcases iv.2.2.2.2.1 k hk with ⟨u1, u2⟩ | ⟨m2, hm2, u1, u2, u3⟩
  · refine both (v := (-3)) (h1 := (zmk r c c c2 (va_up I 1 (nI 1)) J (va_up Q 0 (upd (Q 0) 1 (Q 0 1 + 1))) N A U V X S t)) (h2 := (zmk r c c c2 (va_up I 1 (nI 1)) J (va_up Q 0 (upd (Q 0) 1 (Q 0 1 + 1))) N A (va_up U 3 (nI 1)) V (va_up X 9 (upd (X 9) 1 (X 9 1 + 1))) S t)) ?_ ?_ (st_mk (iv_found 1 iv (by decide) (by decide)) t1 t2)
    · simp only [E_X5_copy_0, mo_0, mg_0_0, mg_0_1, mg_0_2, mg_0_3, mg_0_4, mg_0_5, mg_0_6, mg_0_7, mg_0_8, mg_0_9, mg_0_10, mg_0_11, if_true, k_rowAt, e, f, i01, if_false, zcQ_ref, c0, cj, ck, mo_r hj, mo_r hk, wr_miss hj, wr_miss hk, s1, u1, nI_m1 (show m < 2 ^ 31 by omega), k_f1, zcI_some]
    · simp only [E_X6_copy_0, mo_49, mg_49_0, mg_49_1, mg_49_2, mg_49_3, mg_49_4, mg_49_5, mg_49_6, mg_49_7, mg_49_8, mg_49_9, mg_49_10, mg_49_11, mg_49_12, mg_49_13, mg_49_14, mg_49_15, mg_49_16, mg_49_17, mg_49_18, mg_49_19, mg_49_20, mg_49_21, mg_49_22, mg_49_23, mg_49_24, mg_49_25, m_row, e, f, if_true, i01, if_false, zcI_some, c0, Option.bind_some, ma_55 hj, ma_55 hk, s2, u2, nI_pos (show m < 2 ^ 31 by omega), show (-1 : Int32) < 0 from by decide, m_f1]
  have n1 := nI_m1 (show m < 2 ^ 31 by omega)
  have n2 := nI_m1 (show m2 < 2 ^ 31 by omega)
  have p1 := nI_pos (show m < 2 ^ 31 by omega)
  have p2 := nI_pos (show m2 < 2 ^ 31 by omega)
  rcases zsp_cases m (by omega) b c0 with g | ⟨g, i, q, rfl, rfl, hq⟩
  · refine both (v := (-3)) (h1 := (zmk r c c c2 (va_up I 1 (nI 2)) J (va_up Q 0 (upd (Q 0) 2 (Q 0 2 + 1))) N A U V X S t)) (h2 := (zmk r c c c2 (va_up I 1 (nI 2)) J (va_up Q 0 (upd (Q 0) 2 (Q 0 2 + 1))) N A (va_up U 3 (nI 2)) V (va_up X 9 (upd (X 9) 2 (X 9 2 + 1))) S t)) ?_ ?_ (st_mk (iv_found 2 iv (by decide) (by decide)) t1 t2)
    · simp only [E_X5_copy_0, mo_0, mg_0_0, mg_0_1, mg_0_2, mg_0_3, mg_0_4, mg_0_5, mg_0_6, mg_0_7, mg_0_8, mg_0_9, mg_0_10, mg_0_11, if_true, k_rowAt, e, f, i01, if_false, zcQ_ref, c0, cj, ck, mo_r hj, mo_r hk, wr_miss hj, wr_miss hk, s1, u1, n1, n2, wr_span hj s1, g, k_f2, zcI_some]
    · simp only [E_X6_copy_0, mo_49, mg_49_0, mg_49_1, mg_49_2, mg_49_3, mg_49_4, mg_49_5, mg_49_6, mg_49_7, mg_49_8, mg_49_9, mg_49_10, mg_49_11, mg_49_12, mg_49_13, mg_49_14, mg_49_15, mg_49_16, mg_49_17, mg_49_18, mg_49_19, mg_49_20, mg_49_21, mg_49_22, mg_49_23, mg_49_24, mg_49_25, m_row, e, f, if_true, i01, if_false, zcI_some, c0, Option.bind_some, ma_55 hj, ma_55 hk, s2, u2, p1, p2, m_span hj (show m ≤ 60 by omega) s2 _ _ c0, g, m_f2]
  rcases zsp_cases m2 (by omega) b2 c0 with g2 | ⟨g2, d, q2, rfl, eq, hq2⟩
  · refine both (v := (-3)) (h1 := (zmk r c c c2 (va_up I 1 (nI 2)) J (va_up Q 0 (upd (Q 0) 2 (Q 0 2 + 1))) N A U V X S t)) (h2 := (zmk r c c c2 (va_up I 1 (nI 2)) J (va_up Q 0 (upd (Q 0) 2 (Q 0 2 + 1))) N A (va_up U 3 (nI 2)) V (va_up X 9 (upd (X 9) 2 (X 9 2 + 1))) S t)) ?_ ?_ (st_mk (iv_found 2 iv (by decide) (by decide)) t1 t2)
    · simp only [E_X5_copy_0, mo_0, mg_0_0, mg_0_1, mg_0_2, mg_0_3, mg_0_4, mg_0_5, mg_0_6, mg_0_7, mg_0_8, mg_0_9, mg_0_10, mg_0_11, if_true, k_rowAt, e, f, i01, if_false, zcQ_ref, c0, cj, ck, mo_r hj, mo_r hk, wr_miss hj, wr_miss hk, s1, u1, n1, n2, wr_span hj s1, wr_span hk u1, g, g2, k_f2, zcI_some]
    · simp only [E_X6_copy_0, mo_49, mg_49_0, mg_49_1, mg_49_2, mg_49_3, mg_49_4, mg_49_5, mg_49_6, mg_49_7, mg_49_8, mg_49_9, mg_49_10, mg_49_11, mg_49_12, mg_49_13, mg_49_14, mg_49_15, mg_49_16, mg_49_17, mg_49_18, mg_49_19, mg_49_20, mg_49_21, mg_49_22, mg_49_23, mg_49_24, mg_49_25, m_row, e, f, if_true, i01, if_false, zcI_some, c0, Option.bind_some, ma_55 hj, ma_55 hk, s2, u2, p1, p2, m_span hj (show m ≤ 60 by omega) s2 _ _ c0, m_span hk (show m2 ≤ 60 by omega) u2 _ _ c0, g, g2, m_f2]
  have hqq : q < 2 ^ 31 := by omega
  have hq3 : d + q ≤ m2 := by
    have : ∀ q2, q2 < 2 ^ 31 → nI q = nI q2 → q = q2 := fun q2 h e => (nI_eq hqq h).mp e
    have := this q2 (by omega) eq
    omega
  have iv2 := iv_row iv hk (s := I (6 + k)) (s2 := X 5 k) (f := va_cpy (Q (13 + j)) (Q (13 + k)) i d q) (f2 := va_cpy (X 6) (X 6) (40 * j + i) (40 * k + d) q) (.inr ⟨m2, hm2, u1, u2, fun x hx => by
    show va_cpy _ _ _ _ _ x = va_cpy _ _ _ _ _ (40 * k + x)
    unfold va_cpy
    by_cases w : d ≤ x ∧ x < d + q
    · rw [if_pos w, if_pos (by omega), s3 _ (by omega)]
      show X 6 _ = X 6 _
      congr 1
      omega
    · rw [if_neg w, if_neg (by omega)]
      exact u3 x hx⟩) fun x y hx hn hy => by
    unfold va_cpy
    rw [if_neg (by omega)]
  rw [va_self, show upd (X 5) k (X 5 k) = X 5 from by
    funext i
    by_cases q : i = k
    · subst q; rw [pk_us]
    · rw [pk_un q], va_self] at iv2
  refine both (v := 1) (h1 := (zmk r c c c2 I J (va_up Q (13 + k) (va_cpy (Q (13 + j)) (Q (13 + k)) i d q)) N A U V X S t)) (h2 := (zmk r c c c2 I J (va_up Q (13 + k) (va_cpy (Q (13 + j)) (Q (13 + k)) i d q)) N A U V (va_up X 6 (va_cpy (X 6) (X 6) (40 * j + i) (40 * k + d) q)) S t)) ?_ ?_ (st_mk iv2 t1 t2)
  · simp only [E_X5_copy_0, mo_0, mg_0_0, mg_0_1, mg_0_2, mg_0_3, mg_0_4, mg_0_5, mg_0_6, mg_0_7, mg_0_8, mg_0_9, mg_0_10, mg_0_11, if_true, k_rowAt, e, f, i01, if_false, zcQ_ref, c0, cj, ck, mo_r hj, mo_r hk, wr_miss hj, wr_miss hk, s1, u1, n1, n2, wr_span hj s1, wr_span hk u1, g, g2, wr_copy hj hk s1 (show m ≤ 60 by omega) u1 (show m2 ≤ 60 by omega) hq hq3, zcI_some, zcV_some]
  · simp only [E_X6_copy_0, mo_49, mg_49_0, mg_49_1, mg_49_2, mg_49_3, mg_49_4, mg_49_5, mg_49_6, mg_49_7, mg_49_8, mg_49_9, mg_49_10, mg_49_11, mg_49_12, mg_49_13, mg_49_14, mg_49_15, mg_49_16, mg_49_17, mg_49_18, mg_49_19, mg_49_20, mg_49_21, mg_49_22, mg_49_23, mg_49_24, mg_49_25, m_row, e, f, if_true, i01, if_false, zcI_some, c0, Option.bind_some, ma_55 hj, ma_55 hk, s2, u2, p1, p2, m_span hj (show m ≤ 60 by omega) s2 _ _ c0, m_span hk (show m2 ≤ 60 by omega) u2 _ _ c0, g, g2]
    by_cases w : i < d
    · rw [if_pos (nI_lt w (by omega)), m_cpy hj hk (by omega) (by omega) 1 (.inl ⟨rfl, w⟩)]
    · rw [if_neg (nI_nlt (by omega) (by omega)), m_cpy hj hk (by omega) (by omega) 0 (.inr ⟨rfl, by omega⟩)]
theorem lk_mean (a : Int32) {h : zH} (st : zSt r n h) : zBoth r n n (zev r i_X5_mean 0 [some (.ref (r.1 + 0)), some (.int a), none] []) (zev r i_X6_mean 0 [some (.ref (r.1 + 49)), some (.int a), none, none, none] []) h := by
  obtain ⟨C, c, c2, I, J, Q, N, A, U, V, X, S, t, rfl, iv, t1, t2⟩ := st
  rcases zhk_cases 6 (by decide) a with e | ⟨e, j, hj, rfl⟩
  · refine both (v := (-1)) (h1 := (zmk r c c c2 I J Q N A U V X S t)) (h2 := (zmk r c c c2 I J Q N A U V X S t)) ?_ ?_ (st_mk iv t1 t2)
    · simp only [E_X5_mean_0, mo_0, mg_0_0, mg_0_1, mg_0_2, mg_0_3, mg_0_4, mg_0_5, mg_0_6, mg_0_7, mg_0_8, mg_0_9, mg_0_10, mg_0_11, if_true, k_rowAt, e, zcQ_null]
    · simp only [E_X6_mean_0, m_row, e, if_true, zcI_some]
  rcases iv.2.2.2.2.1 j hj with ⟨s1, s2⟩ | ⟨m, hm, s1, s2, s3⟩
  · refine both (v := (-3)) (h1 := (zmk r c c c2 (va_up I 1 (nI 1)) J (va_up Q 0 (upd (Q 0) 1 (Q 0 1 + 1))) N A U V X S t)) (h2 := (zmk r c c c2 (va_up I 1 (nI 1)) J (va_up Q 0 (upd (Q 0) 1 (Q 0 1 + 1))) N A (va_up U 3 (nI 1)) V (va_up X 9 (upd (X 9) 1 (X 9 1 + 1))) S t)) ?_ ?_ (st_mk (iv_found 1 iv (by decide) (by decide)) t1 t2)
    · simp only [E_X5_mean_0, mo_0, mg_0_0, mg_0_1, mg_0_2, mg_0_3, mg_0_4, mg_0_5, mg_0_6, mg_0_7, mg_0_8, mg_0_9, mg_0_10, mg_0_11, if_true, k_rowAt, e, i01, if_false, zcQ_ref, nI_clamp (show j < 2 ^ 31 by omega), mo_r hj, wr_miss hj, s1, zcI_some, k_f1]
    · simp only [E_X6_mean_0, m_row, e, i01, if_false, mo_49, mg_49_0, mg_49_1, mg_49_2, mg_49_3, mg_49_4, mg_49_5, mg_49_6, mg_49_7, mg_49_8, mg_49_9, mg_49_10, mg_49_11, mg_49_12, mg_49_13, mg_49_14, mg_49_15, mg_49_16, mg_49_17, mg_49_18, mg_49_19, mg_49_20, mg_49_21, mg_49_22, mg_49_23, mg_49_24, mg_49_25, Option.bind_some, ma_55 hj, s2, show (-1 : Int32) < 0 from by decide, if_true, zcI_some, m_f1]
  by_cases m0 : m = 0
  · subst m0
    refine both (v := (-3)) (h1 := (zmk r c c c2 (va_up I 1 (nI 4)) J (va_up Q 0 (upd (Q 0) 4 (Q 0 4 + 1))) N A U V X S t)) (h2 := (zmk r c c c2 (va_up I 1 (nI 4)) J (va_up Q 0 (upd (Q 0) 4 (Q 0 4 + 1))) N A (va_up U 3 (nI 4)) V (va_up X 9 (upd (X 9) 4 (X 9 4 + 1))) S t)) ?_ ?_ (st_mk (iv_found 4 iv (by decide) (by decide)) t1 t2)
    · simp only [E_X5_mean_0, mo_0, mg_0_0, mg_0_1, mg_0_2, mg_0_3, mg_0_4, mg_0_5, mg_0_6, mg_0_7, mg_0_8, mg_0_9, mg_0_10, mg_0_11, if_true, k_rowAt, e, i01, if_false, zcQ_ref, nI_clamp (show j < 2 ^ 31 by omega), mo_r hj, wr_miss hj, s1, zcI_some, mgs_r hj, Option.bind_some, show nI 0 = 0 by decide, show ¬ (0 : Int32) = -1 by decide, k_f4]
    · simp only [E_X6_mean_0, m_row, e, i01, if_false, mo_49, mg_49_0, mg_49_1, mg_49_2, mg_49_3, mg_49_4, mg_49_5, mg_49_6, mg_49_7, mg_49_8, mg_49_9, mg_49_10, mg_49_11, mg_49_12, mg_49_13, mg_49_14, mg_49_15, mg_49_16, mg_49_17, mg_49_18, mg_49_19, mg_49_20, mg_49_21, mg_49_22, mg_49_23, mg_49_24, mg_49_25, Option.bind_some, ma_55 hj, s2, show nI 0 = 0 by decide, show ¬ (0 : Int32) < 0 by decide, if_true, zcI_some, m_f4]
  have z0 : ¬ nI m = 0 := nI_ne0 (by omega) (by omega)
  have z1 : ¬ (nI m).toInt64 = 0 := by
    rw [nI_l (show m < 2 ^ 31 by omega)]
    exact fun q => m0 ((pk_lEQ (b := 0) (show m < 2 ^ 63 by omega) (by decide)).mp q)
  have es : zfd (fun (a : Int64) i => a + (X 6 (40 * j + i)).toInt64) 0 m 0 = zfd (fun (a : Int64) i => a + (Q (13 + j) i).toInt64) 0 m 0 := zfd_congr fun s i _ hi => by rw [s3 i (by omega)]
  refine both (v := 1) (h1 := (zmk r c c c2 (va_up I 0 ((zfd (fun (a : Int64) i => a + (Q (13 + j) i).toInt64) 0 m 0 / (nI m).toInt64).toInt32)) J Q N A U V X S t)) (h2 := (zmk r c c c2 (va_up I 0 ((zfd (fun (a : Int64) i => a + (Q (13 + j) i).toInt64) 0 m 0 / (nI m).toInt64).toInt32)) J Q N A (va_up U 2 ((zfd (fun (a : Int64) i => a + (Q (13 + j) i).toInt64) 0 m 0 / (nI m).toInt64).toInt32)) V X S t)) ?_ ?_ (st_mk (iv_tell _ iv) t1 t2)
  · simp only [E_X5_mean_0, mo_0, mg_0_0, mg_0_1, mg_0_2, mg_0_3, mg_0_4, mg_0_5, mg_0_6, mg_0_7, mg_0_8, mg_0_9, mg_0_10, mg_0_11, if_true, k_rowAt, e, i01, if_false, zcQ_ref, nI_clamp (show j < 2 ^ 31 by omega), mo_r hj, wr_miss hj, s1, nI_m1 (show m < 2 ^ 31 by omega), zcI_some, mgs_r hj, Option.bind_some, z0, wr_sum hj s1 (show m ≤ 60 by omega), zcL_some, z1, k_tell, zcV_some]
  · simp only [E_X6_mean_0, m_row, e, i01, if_false, mo_49, mg_49_0, mg_49_1, mg_49_2, mg_49_3, mg_49_4, mg_49_5, mg_49_6, mg_49_7, mg_49_8, mg_49_9, mg_49_10, mg_49_11, mg_49_12, mg_49_13, mg_49_14, mg_49_15, mg_49_16, mg_49_17, mg_49_18, mg_49_19, mg_49_20, mg_49_21, mg_49_22, mg_49_23, mg_49_24, mg_49_25, Option.bind_some, ma_55 hj, s2, nI_pos (show m < 2 ^ 31 by omega), z0, zcI_some]
    have := zloop (fun i (a : Int64) => zev r i_X6_mean 44 [some (.ref (r.1 + 49)), some (.int (nI j)), some (.long a), none, some (.int (nI i))] [] (zmk r c c c2 (va_up I 0 ((zfd (fun (a : Int64) i => a + (Q (13 + j) i).toInt64) 0 m 0 / (nI m).toInt64).toInt32)) J Q N A U V X S t)) (fun a => some (some (.int 1), (zmk r c c c2 (va_up I 0 ((zfd (fun (a : Int64) i => a + (Q (13 + j) i).toInt64) 0 m 0 / (nI m).toInt64).toInt32)) J Q N A (va_up U 2 ((a / (nI m).toInt64).toInt32)) V X S t))) (fun (a : Int64) i => a + (X 6 (40 * j + i)).toInt64) m (fun i a hi => by
      refine (E_X6_mean_44 ..).trans ?_
      have e40 : (40 : Int32) * nI j + nI i = nI (40 * j + i) := by rw [show (40 : Int32) = nI 40 from rfl, pk_mul, nI_add]
      simp only [mo_49, mg_49_0, mg_49_1, mg_49_2, mg_49_3, mg_49_4, mg_49_5, mg_49_6, mg_49_7, mg_49_8, mg_49_9, mg_49_10, mg_49_11, mg_49_12, mg_49_13, mg_49_14, mg_49_15, mg_49_16, mg_49_17, mg_49_18, mg_49_19, mg_49_20, mg_49_21, mg_49_22, mg_49_23, mg_49_24, mg_49_25, Option.bind_some, ma_55 hj, s2, if_pos (nI_lt hi (show m < 2 ^ 31 by omega)), e40, ma_56 (show 40 * j + i < 240 by omega), nI_1]) (fun a => by
      refine (E_X6_mean_44 ..).trans ?_
      simp only [mo_49, mg_49_0, mg_49_1, mg_49_2, mg_49_3, mg_49_4, mg_49_5, mg_49_6, mg_49_7, mg_49_8, mg_49_9, mg_49_10, mg_49_11, mg_49_12, mg_49_13, mg_49_14, mg_49_15, mg_49_16, mg_49_17, mg_49_18, mg_49_19, mg_49_20, mg_49_21, mg_49_22, mg_49_23, mg_49_24, mg_49_25, Option.bind_some, ma_55 hj, s2, if_neg (nI_nlt (Nat.le_refl m) (show m < 2 ^ 31 by omega)), z1, if_false, if_true, m_tell, zcI_some]) 0
    rw [es] at this
    exact this
theorem m_text34 {j : Nat} (hj : j < 4) (k : Int32) : zev r i_X6_text 34 [some (.ref (r.1 + 49)), some (.int (nI j)), some (.int k), some (.int 0)] [] (zmk r c0 c1 c2 I J Q N A U V X S t) = some (some (.int k), (zmk r c0 c1 c2 I J Q N A U V (va_up X 8 (zFl (X 8) (60 * j) 60 32)) S t)) := by
  have := zloop (fun i (f : zA) => zev r i_X6_text 34 [some (.ref (r.1 + 49)), some (.int (nI j)), some (.int k), some (.int (nI i))] [] (zmk r c0 c1 c2 I J Q N A U V (va_up X 8 f) S t)) (fun f => some (some (.int k), (zmk r c0 c1 c2 I J Q N A U V (va_up X 8 f) S t))) (fun f i => upd f (60 * j + i) 32) 60 (fun i a hi => by
    refine (E_X6_text_34 ..).trans ?_
    have e : (60 : Int32) * nI j + nI i = nI (60 * j + i) := by rw [show (60 : Int32) = nI 60 from rfl, pk_mul, nI_add]
    simp only [if_pos (show nI i < 60 from nI_lt (b := 60) hi (by decide)), mo_49, mg_49_0, mg_49_1, mg_49_2, mg_49_3, mg_49_4, mg_49_5, mg_49_6, mg_49_7, mg_49_8, mg_49_9, mg_49_10, mg_49_11, mg_49_12, mg_49_13, mg_49_14, mg_49_15, mg_49_16, mg_49_17, mg_49_18, mg_49_19, mg_49_20, mg_49_21, mg_49_22, mg_49_23, mg_49_24, mg_49_25, Option.bind_some, e, mw_58 (show 60 * j + i < 240 by omega), va_same, bx_uu, nI_1]) (fun a => by
    refine (E_X6_text_34 ..).trans ?_
    simp only [if_neg (show ¬ nI 60 < 60 by decide)]) (X 8)
  rw [zfl_eq, va_self] at this
  exact this
theorem lk_text (a b : Int32) {h : zH} (st : zSt r n h) : zBoth r n n (zev r i_X5_text 0 [some (.ref (r.1 + 0)), some (.int a), some (.int b)] []) (zev r i_X6_text 0 [some (.ref (r.1 + 49)), some (.int a), some (.int b), none] []) h := by
  obtain ⟨C, c, c2, I, J, Q, N, A, U, V, X, S, t, rfl, iv, t1, t2⟩ := st
  rcases zhk_cases 4 (by decide) a with e | ⟨e, j, hj, rfl⟩
  · refine both (v := (-1)) (h1 := (zmk r c c c2 I J Q N A U V X S t)) (h2 := (zmk r c c c2 I J Q N A U V X S t)) ?_ ?_ (st_mk iv t1 t2)
    · simp only [E_X5_text_0, mo_0, mg_0_0, mg_0_1, mg_0_2, mg_0_3, mg_0_4, mg_0_5, mg_0_6, mg_0_7, mg_0_8, mg_0_9, mg_0_10, mg_0_11, if_true, k_textAt, e, zcQ_null, E_X5_renewed_0_n, zcI_some]
    · simp only [E_X6_text_0, m_text, e, if_true, zcI_some]
  · by_cases b1 : (60 : Int32) < b
    · refine both (v := (-1)) (h1 := (zmk r c c c2 I J Q N A U V X S t)) (h2 := (zmk r c c c2 I J Q N A U V X S t)) ?_ ?_ (st_mk iv t1 t2)
      · simp only [E_X5_text_0, mo_0, mg_0_0, mg_0_1, mg_0_2, mg_0_3, mg_0_4, mg_0_5, mg_0_6, mg_0_7, mg_0_8, mg_0_9, mg_0_10, mg_0_11, if_true, k_textAt, e, i01, if_false, zcQ_ref, nI_clamp (show j < 2 ^ 31 by omega), E_X5_renewed_0, if_pos b1, zcI_some]
      · simp only [E_X6_text_0, m_text, e, i01, if_false, if_pos b1, zcI_some]
    · by_cases b2 : b < 0
      · refine both (v := (-3)) (h1 := (zmk r c c c2 (va_up I 1 (nI 5)) J (va_up Q 0 (upd (Q 0) 5 (Q 0 5 + 1))) N A U V X S t)) (h2 := (zmk r c c c2 (va_up I 1 (nI 5)) J (va_up Q 0 (upd (Q 0) 5 (Q 0 5 + 1))) N A (va_up U 3 (nI 5)) V (va_up X 9 (upd (X 9) 5 (X 9 5 + 1))) S t)) ?_ ?_ (st_mk (iv_found 5 iv (by decide) (by decide)) t1 t2)
        · simp only [E_X5_text_0, mo_0, mg_0_0, mg_0_1, mg_0_2, mg_0_3, mg_0_4, mg_0_5, mg_0_6, mg_0_7, mg_0_8, mg_0_9, mg_0_10, mg_0_11, if_true, k_textAt, e, i01, if_false, zcQ_ref, nI_clamp (show j < 2 ^ 31 by omega), E_X5_renewed_0, if_neg b1, if_pos b2, zcI_some, k_f5]
        · simp only [E_X6_text_0, mo_49, mg_49_0, mg_49_1, mg_49_2, mg_49_3, mg_49_4, mg_49_5, mg_49_6, mg_49_7, mg_49_8, mg_49_9, mg_49_10, mg_49_11, mg_49_12, mg_49_13, mg_49_14, mg_49_15, mg_49_16, mg_49_17, mg_49_18, mg_49_19, mg_49_20, mg_49_21, mg_49_22, mg_49_23, mg_49_24, mg_49_25, m_text, e, i01, if_false, if_true, if_neg b1, if_pos b2, zcI_some, m_f5]
      · obtain ⟨k, hk, rfl⟩ := nI_of b2
        have h60 : k ≤ 60 := by
          refine Nat.le_of_not_lt fun q => b1 (nI_lt (a := 60) q hk)
        refine both (v := (nI k)) (h1 := (zmk r c c c2 (va_up I (12 + j) (nI k)) J (va_up Q (19 + j) (fun i => if i < 60 then 32 else Q (19 + j) i)) N A U V X S t)) (h2 := (zmk r c c c2 (va_up I (12 + j) (nI k)) J (va_up Q (19 + j) (fun i => if i < 60 then 32 else Q (19 + j) i)) N A U V (va_up (va_up X 7 (upd (X 7) j (nI k))) 8 (zFl (X 8) (60 * j) 60 32)) S t)) ?_ ?_ (st_mk (iv_text iv hj (.inr ⟨k, h60, rfl, rfl, fun i hi => ?_⟩) fun q i hq hn hi => ?_) t1 t2)
        · simp only [E_X5_text_0, mo_0, mg_0_0, mg_0_1, mg_0_2, mg_0_3, mg_0_4, mg_0_5, mg_0_6, mg_0_7, mg_0_8, mg_0_9, mg_0_10, mg_0_11, if_true, k_textAt, e, i01, if_false, zcQ_ref, nI_clamp (show j < 2 ^ 31 by omega), E_X5_renewed_0, if_neg b1, if_neg b2, zcI_some, mo_t hj, wt_renew hj h60, zcV_some]
        · simp only [E_X6_text_0, mo_49, mg_49_0, mg_49_1, mg_49_2, mg_49_3, mg_49_4, mg_49_5, mg_49_6, mg_49_7, mg_49_8, mg_49_9, mg_49_10, mg_49_11, mg_49_12, mg_49_13, mg_49_14, mg_49_15, mg_49_16, mg_49_17, mg_49_18, mg_49_19, mg_49_20, mg_49_21, mg_49_22, mg_49_23, mg_49_24, mg_49_25, m_text, e, i01, if_false, if_true, if_neg b1, if_neg b2, zcI_some, mw_57 hj, Option.bind_some, m_text34 hj, va_ne (show (8 : Nat) ≠ 7 by decide)]
        · show (if i < 60 then (32 : Int32) else _) = zFl (X 8) (60 * j) 60 32 (60 * j + i)
          unfold zFl
          rw [if_pos (by omega), if_pos (by omega)]
        · unfold zFl
          rw [if_neg (by omega)]
theorem lk_put (a b v : Int32) {h : zH} (st : zSt r n h) : zBoth r n n (zev r i_X5_put 0 [some (.ref (r.1 + 0)), some (.int a), some (.int b), some (.int v), none, none] []) (zev r i_X6_put 0 [some (.ref (r.1 + 49)), some (.int a), some (.int b), some (.int v), none] []) h := by
  obtain ⟨C, c, c2, I, J, Q, N, A, U, V, X, S, t, rfl, iv, t1, t2⟩ := st
  rcases zhk_cases 4 (by decide) a with e | ⟨e, j, hj, rfl⟩
  · refine both (v := (-1)) (h1 := (zmk r c c c2 I J Q N A U V X S t)) (h2 := (zmk r c c c2 I J Q N A U V X S t)) ?_ ?_ (st_mk iv t1 t2)
    · simp only [E_X5_put_0, mo_0, mg_0_0, mg_0_1, mg_0_2, mg_0_3, mg_0_4, mg_0_5, mg_0_6, mg_0_7, mg_0_8, mg_0_9, mg_0_10, mg_0_11, if_true, k_textAt, e, zcQ_null]
    · simp only [E_X6_put_0, m_text, e, if_true, zcI_some]
  · rcases iv.2.2.2.2.2.1 j hj with ⟨s1, s2⟩ | ⟨m, hm, s1, s2, s3⟩
    · refine both (v := (-3)) (h1 := (zmk r c c c2 (va_up I 1 (nI 1)) J (va_up Q 0 (upd (Q 0) 1 (Q 0 1 + 1))) N A U V X S t)) (h2 := (zmk r c c c2 (va_up I 1 (nI 1)) J (va_up Q 0 (upd (Q 0) 1 (Q 0 1 + 1))) N A (va_up U 3 (nI 1)) V (va_up X 9 (upd (X 9) 1 (X 9 1 + 1))) S t)) ?_ ?_ (st_mk (iv_found 1 iv (by decide) (by decide)) t1 t2)
      · simp only [E_X5_put_0, mo_0, mg_0_0, mg_0_1, mg_0_2, mg_0_3, mg_0_4, mg_0_5, mg_0_6, mg_0_7, mg_0_8, mg_0_9, mg_0_10, mg_0_11, if_true, k_textAt, e, i01, if_false, zcQ_ref, nI_clamp (show j < 2 ^ 31 by omega), mo_t hj, wt_miss hj, s1, zcI_some, k_f1]
      · simp only [E_X6_put_0, mo_49, mg_49_0, mg_49_1, mg_49_2, mg_49_3, mg_49_4, mg_49_5, mg_49_6, mg_49_7, mg_49_8, mg_49_9, mg_49_10, mg_49_11, mg_49_12, mg_49_13, mg_49_14, mg_49_15, mg_49_16, mg_49_17, mg_49_18, mg_49_19, mg_49_20, mg_49_21, mg_49_22, mg_49_23, mg_49_24, mg_49_25, m_text, e, i01, if_false, Option.bind_some, ma_57 hj, s2, show (-1 : Int32) < 0 from by decide, if_true, zcI_some, m_f1]
    · have bw := zbw_hk (show m < 2 ^ 31 by omega)
      rcases zhk_cases m (by omega) b with e2 | ⟨e2, k, hk, rfl⟩
      · refine both (v := (-3)) (h1 := (zmk r c c c2 (va_up I 1 (nI 2)) J (va_up Q 0 (upd (Q 0) 2 (Q 0 2 + 1))) N A U V X S t)) (h2 := (zmk r c c c2 (va_up I 1 (nI 2)) J (va_up Q 0 (upd (Q 0) 2 (Q 0 2 + 1))) N A (va_up U 3 (nI 2)) V (va_up X 9 (upd (X 9) 2 (X 9 2 + 1))) S t)) ?_ ?_ (st_mk (iv_found 2 iv (by decide) (by decide)) t1 t2)
        · simp only [E_X5_put_0, mo_0, mg_0_0, mg_0_1, mg_0_2, mg_0_3, mg_0_4, mg_0_5, mg_0_6, mg_0_7, mg_0_8, mg_0_9, mg_0_10, mg_0_11, if_true, k_textAt, e, i01, if_false, zcQ_ref, nI_clamp (show j < 2 ^ 31 by omega), mo_t hj, wt_miss hj, s1, nI_m1 (show m < 2 ^ 31 by omega), zcI_some, wt_has hj s1, e2, k_f2]
        · simp only [E_X6_put_0, mo_49, mg_49_0, mg_49_1, mg_49_2, mg_49_3, mg_49_4, mg_49_5, mg_49_6, mg_49_7, mg_49_8, mg_49_9, mg_49_10, mg_49_11, mg_49_12, mg_49_13, mg_49_14, mg_49_15, mg_49_16, mg_49_17, mg_49_18, mg_49_19, mg_49_20, mg_49_21, mg_49_22, mg_49_23, mg_49_24, mg_49_25, m_text, e, i01, if_false, Option.bind_some, ma_57 hj, s2, nI_pos (show m < 2 ^ 31 by omega), m_in r _ b 0 _ (show (0 : Int64) = (0 : Int32).toInt64 from rfl) rfl, bw, e2, if_true, zcI_some, m_f2]
      · have e60 : (60 : Int32) * nI j + nI k = nI (60 * j + k) := by rw [show (60 : Int32) = nI 60 from rfl, pk_mul, nI_add]
        have ek : X 8 (60 * j + k) = Q (19 + j) k := (s3 k hk).symm
        have iv2 := (iv_text iv hj (s := I (12 + j)) (s2 := X 7 j) (f := upd (Q (19 + j)) k v.toInt8.toInt32) (f2 := upd (X 8) (60 * j + k) v.toInt8.toInt32) (.inr ⟨m, hm, s1, s2, fun i hi => by
          show upd (Q (19 + j)) k _ i = upd (X 8) (60 * j + k) _ (60 * j + i)
          by_cases q : i = k
          · subst q; rw [pk_us, pk_us]
          · rw [pk_un q, pk_un (by omega)]; exact s3 i hi⟩) fun q i hq hn hi => pk_un (by omega))
        rw [va_self, show upd (X 7) j (X 7 j) = X 7 from by
          funext i
          by_cases q : i = j
          · subst q; rw [pk_us]
          · rw [pk_un q], va_self] at iv2
        refine both (v := (Q (19 + j) k + 1000)) (h1 := (zmk r c c c2 I J (va_up Q (19 + j) (upd (Q (19 + j)) k v.toInt8.toInt32)) N A U V X S t)) (h2 := (zmk r c c c2 I J (va_up Q (19 + j) (upd (Q (19 + j)) k v.toInt8.toInt32)) N A U V (va_up X 8 (upd (X 8) (60 * j + k) v.toInt8.toInt32)) S t)) ?_ ?_ (st_mk iv2 t1 t2)
        · simp only [E_X5_put_0, mo_0, mg_0_0, mg_0_1, mg_0_2, mg_0_3, mg_0_4, mg_0_5, mg_0_6, mg_0_7, mg_0_8, mg_0_9, mg_0_10, mg_0_11, if_true, k_textAt, e, i01, if_false, zcQ_ref, nI_clamp (show j < 2 ^ 31 by omega), mo_t hj, wt_miss hj, s1, nI_m1 (show m < 2 ^ 31 by omega), zcI_some, wt_has hj s1, e2, wt_get hj s1 (show m ≤ 60 by omega), nI_clamp (show k < 2 ^ 31 by omega), wt_set hj s1 (show m ≤ 60 by omega) hk, zcV_some]
        · simp only [E_X6_put_0, mo_49, mg_49_0, mg_49_1, mg_49_2, mg_49_3, mg_49_4, mg_49_5, mg_49_6, mg_49_7, mg_49_8, mg_49_9, mg_49_10, mg_49_11, mg_49_12, mg_49_13, mg_49_14, mg_49_15, mg_49_16, mg_49_17, mg_49_18, mg_49_19, mg_49_20, mg_49_21, mg_49_22, mg_49_23, mg_49_24, mg_49_25, m_text, e, i01, if_false, Option.bind_some, ma_57 hj, s2, nI_pos (show m < 2 ^ 31 by omega), m_in r _ (nI k) 0 _ (show (0 : Int64) = (0 : Int32).toInt64 from rfl) rfl, bw, e2, zcI_some, e60, ma_58 (show 60 * j + k < 240 by omega), mw_58 (show 60 * j + k < 240 by omega), ek]
end PAIRS2
