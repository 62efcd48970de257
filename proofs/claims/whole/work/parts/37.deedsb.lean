/-! HANG, DOWN, CHANGE, LINE: both alike -/
section DEEDS2
variable {r : zE} {c0 c1 c2 : Nat} {I : Nat → Int32} {J : Nat → Int64} {Q : Nat → Nat → Int32} {N A : zBr} {U : Nat → Int32} {V : Nat → Int64} {X : Nat → Nat → Int32} {S : zSs} {t : zH} {C : zCs} {c n d : Nat}
theorem upd0_1 {f : zA} {m : Nat} {v : Int32} {b : Nat} (hb : 1 ≤ b) (h : b + m < 19) (i : Nat) (hi : ¬ (1 ≤ i ∧ i < 19)) : upd (zKp f d) (b + m) v i = zKp f d i := upd_n (by omega)
theorem g_room1 (hd : I 2 = nI d) (h6 : d ≤ 60) : zev r i_X2_hasRoomFor 0 [some (.ref (r.1 + 19)), some (.int 1)] [] (zmk r c0 c1 c2 I J Q N A U V X S t) = some (some (.int (if d = 60 then 0 else 1)), zmk r c0 c1 c2 I J Q N A U V X S t) := by
  have := g_room (r := r) (c0 := c0) (c1 := c1) (c2 := c2) (J := J) (Q := Q) (N := N) (A := A) (U := U) (V := V) (X := X) (S := S) (t := t) hd h6 (k := 1) (by decide)
  refine this.trans ?_
  by_cases e : d = 60
  · rw [if_pos (by omega), if_pos e]
  · rw [if_neg (by omega), if_neg e]
theorem lk_hang (a b : Int32) {h : zH} (st : zSt r n h) : zBoth r n n (zev r i_X5_hang 0 [some (.ref (r.1 + 0)), some (.int a), some (.int b)] []) (zev r i_X6_hang 0 [some (.ref (r.1 + 49)), some (.int a), some (.int b)] []) h := by
  obtain ⟨C, c, c2, I, J, Q, N, A, U, V, X, S, t, rfl, iv, t1, t2⟩ := st
  obtain ⟨k, hC, mv, _, _, _, no, ⟨d, hd, hp⟩, -⟩ := id iv
  have k1 := k.1
  have k2 := k.2.1
  have d6 := hp.1
  have d0 : X 0 0 = nI d := hp.2.1
  have g_room1 := @g_room1
  rcases zhk_cases C.2.1 (by omega) a with e | ⟨e, m, hm, rfl⟩
  · refine both (v := (-1)) (h1 := (zmk r c c c2 I J Q N A U V X S t)) (h2 := (zmk r c c c2 I J Q N A U V X S t)) ?_ ?_ (st_mk iv t1 t2)
    · simp only [E_X5_hang_0, mo_0, mg_0_0, mg_0_1, mg_0_2, mg_0_3, mg_0_4, mg_0_5, mg_0_6, mg_0_7, mg_0_8, mg_0_9, mg_0_10, mg_0_11, Option.bind_some, (hC ..).1, if_true, cr_man (hC ..), e, zcI_some]
    · simp only [E_X6_hang_0, mo_49, mg_49_0, mg_49_1, mg_49_2, mg_49_3, mg_49_4, mg_49_5, mg_49_6, mg_49_7, mg_49_8, mg_49_9, mg_49_10, mg_49_11, mg_49_12, mg_49_13, mg_49_14, mg_49_15, mg_49_16, mg_49_17, mg_49_18, mg_49_19, mg_49_20, mg_49_21, mg_49_22, mg_49_23, mg_49_24, mg_49_25, if_true, m_man mv k, e, zcI_some]
  rcases zhk_cases C.1 (by omega) b with f | ⟨f, j, hj, rfl⟩
  · refine both (v := (-1)) (h1 := (zmk r c c c2 I J Q N A U V X S t)) (h2 := (zmk r c c c2 I J Q N A U V X S t)) ?_ ?_ (st_mk iv t1 t2)
    · simp only [E_X5_hang_0, mo_0, mg_0_0, mg_0_1, mg_0_2, mg_0_3, mg_0_4, mg_0_5, mg_0_6, mg_0_7, mg_0_8, mg_0_9, mg_0_10, mg_0_11, Option.bind_some, (hC ..).1, if_true, cr_man (hC ..), cr_hook (hC ..), e, f, i01, if_false, zcI_some]
    · simp only [E_X6_hang_0, mo_49, mg_49_0, mg_49_1, mg_49_2, mg_49_3, mg_49_4, mg_49_5, mg_49_6, mg_49_7, mg_49_8, mg_49_9, mg_49_10, mg_49_11, mg_49_12, mg_49_13, mg_49_14, mg_49_15, mg_49_16, mg_49_17, mg_49_18, mg_49_19, mg_49_20, mg_49_21, mg_49_22, mg_49_23, mg_49_24, mg_49_25, if_true, m_man mv k, m_hook mv k, e, f, i01, if_false, zcI_some]
  have es : sWho (fun m => X 0 (1 + m)) (nI j) 0 C.2.1 = N.2.1 j := who_g no.1 k (fun q hq => ((no.2.2 q hq).1).symm) hj
  by_cases w : N.2.1 j = -9
  · have ms0 : ∀ {c0 c1 : Nat} {I J Q N A S t}, zaI r (zmk r c0 c1 c2 I J Q N A U V X S t) (r.1 + 50) 0 = some (nI d) := fun {_ _ _ _ _ _ _ _ _} => (ma_50 (j := 0) (by decide)).trans (by rw [d0])
    by_cases z : d = 60
    · have z1 : nI d = 60 := (d60 d6).mpr z
      refine both (v := (-2)) (h1 := (zmk r c c c2 I J Q N A U V X S t)) (h2 := (zmk r c c c2 I J Q N A U V X S t)) ?_ ?_ (st_mk iv t1 t2)
      · simp only [E_X5_hang_0, mo_0, mg_0_0, mg_0_1, mg_0_2, mg_0_3, mg_0_4, mg_0_5, mg_0_6, mg_0_7, mg_0_8, mg_0_9, mg_0_10, mg_0_11, mo_9, mo_19, Option.bind_some, (hC ..).1, if_true, cr_man (hC ..), cr_hook (hC ..), e, f, i01, if_false, b_free (nBx hC) k, nI_clamp (show j < 2 ^ 31 by omega), w, g_room1 hd d6, z, zcI_some]
      · simp only [E_X6_hang_0, mo_49, mg_49_0, mg_49_1, mg_49_2, mg_49_3, mg_49_4, mg_49_5, mg_49_6, mg_49_7, mg_49_8, mg_49_9, mg_49_10, mg_49_11, mg_49_12, mg_49_13, mg_49_14, mg_49_15, mg_49_16, mg_49_17, mg_49_18, mg_49_19, mg_49_20, mg_49_21, mg_49_22, mg_49_23, mg_49_24, mg_49_25, if_true, m_man mv k, m_hook mv k, e, f, i01, if_false, m_who mv k, es, w, ms0, z1, Option.bind_some, zcI_some]
    · have z1 : ¬ nI d = 60 := fun q => z ((d60 d6).mp q)
      have z2 : d < 60 := by omega
      obtain ⟨G', e1, c1⟩ := b_move (nBx (c0 := c) (c2 := c2) (I := I) (J := J) (Q := Q) (A := A) (U := U) (V := V) (X := X) (S := S) hC) k (B := N) no.1 hm (h := nI j) (.inl (.inr ⟨j, hj, rfl, w⟩))
      have iv2 := iv_deed' iv hp z2 (upd N.1 m (nI j), G', N.2.2.1, N.2.2.2) c1 no.2.1 (upd (zKp (X 0) d) (1 + m) (nI j)) (fun q hq => by
        obtain ⟨b1, b2, b3⟩ := no.2.2 q hq
        refine ⟨?_, ?_, ?_⟩
        · show _ = upd N.1 m (nI j) q
          by_cases w : q = m
          · subst w; rw [upd_s, upd_s]
          · rw [upd_n w, upd_n (by omega), kp_c (by omega) (by omega), b1]
        · rw [upd_n (by omega), kp_c (by omega) (by omega), b2]
        · rw [upd_n (by omega), kp_c (by omega) (by omega), b3]) (fun i hi => upd_n (by omega))
      refine both (v := (nI j)) (h1 := (zmk r c c c2 (va_up I 2 (nI (d + 1))) J (va_up Q 9 (zWr (Q 9) (upd N.1 m (nI j), G', N.2.2.1, N.2.2.2) (18 * (d + 1)))) ((upd N.1 m (nI j), G', N.2.2.1, N.2.2.2)) A U V X S t)) (h2 := (zmk r c c c2 (va_up I 2 (nI (d + 1))) J (va_up Q 9 (zWr (Q 9) (upd N.1 m (nI j), G', N.2.2.1, N.2.2.2) (18 * (d + 1)))) ((upd N.1 m (nI j), G', N.2.2.1, N.2.2.2)) A U V (va_up X 0 (upd (zKp (X 0) d) (1 + m) (nI j))) S t)) ?_ ?_ (st_mk iv2 t1 t2)
      · simp only [E_X5_hang_0, mo_0, mg_0_0, mg_0_1, mg_0_2, mg_0_3, mg_0_4, mg_0_5, mg_0_6, mg_0_7, mg_0_8, mg_0_9, mg_0_10, mg_0_11, mo_9, mo_19, Option.bind_some, (hC ..).1, if_true, cr_man (hC ..), cr_hook (hC ..), e, f, i01, if_false, b_free (nBx hC) k, nI_clamp (show j < 2 ^ 31 by omega), w, g_room1 hd d6, z, zcI_some, e1, zcV_some, g_add hd z2]
      · simp only [E_X6_hang_0, mo_49, mg_49_0, mg_49_1, mg_49_2, mg_49_3, mg_49_4, mg_49_5, mg_49_6, mg_49_7, mg_49_8, mg_49_9, mg_49_10, mg_49_11, mg_49_12, mg_49_13, mg_49_14, mg_49_15, mg_49_16, mg_49_17, mg_49_18, mg_49_19, mg_49_20, mg_49_21, mg_49_22, mg_49_23, mg_49_24, mg_49_25, if_true, m_man mv k, m_hook mv k, e, f, i01, if_false, m_who mv k, es, w, ms0, z1, Option.bind_some, zcI_some, m_keepp d0 z2, zcV_some, show (1 : Int32) + nI m = nI (1 + m) from nI_add 1 m, mw_50 (show 1 + m < 4396 by omega), va_same, bx_uu]
  · refine both (v := (-4)) (h1 := (zmk r c c c2 I J Q N A U V X S t)) (h2 := (zmk r c c c2 I J Q N A U V X S t)) ?_ ?_ (st_mk iv t1 t2)
    · simp only [E_X5_hang_0, mo_0, mg_0_0, mg_0_1, mg_0_2, mg_0_3, mg_0_4, mg_0_5, mg_0_6, mg_0_7, mg_0_8, mg_0_9, mg_0_10, mg_0_11, mo_9, Option.bind_some, (hC ..).1, if_true, cr_man (hC ..), cr_hook (hC ..), e, f, i01, if_false, b_free (nBx hC) k, nI_clamp (show j < 2 ^ 31 by omega), w, zcI_some]
    · simp only [E_X6_hang_0, mo_49, mg_49_0, mg_49_1, mg_49_2, mg_49_3, mg_49_4, mg_49_5, mg_49_6, mg_49_7, mg_49_8, mg_49_9, mg_49_10, mg_49_11, mg_49_12, mg_49_13, mg_49_14, mg_49_15, mg_49_16, mg_49_17, mg_49_18, mg_49_19, mg_49_20, mg_49_21, mg_49_22, mg_49_23, mg_49_24, mg_49_25, if_true, m_man mv k, m_hook mv k, e, f, i01, if_false, m_who mv k, es, w, zcI_some]
theorem lk_down (a : Int32) {h : zH} (st : zSt r n h) : zBoth r n n (zev r i_X5_down 0 [some (.ref (r.1 + 0)), some (.int a), none] []) (zev r i_X6_down 0 [some (.ref (r.1 + 49)), some (.int a), none] []) h := by
  obtain ⟨C, c, c2, I, J, Q, N, A, U, V, X, S, t, rfl, iv, t1, t2⟩ := st
  obtain ⟨k, hC, mv, _, _, _, no, ⟨d, hd, hp⟩, -⟩ := id iv
  have k1 := k.1
  have k2 := k.2.1
  have d6 := hp.1
  have d0 : X 0 0 = nI d := hp.2.1
  have g_room1 := @g_room1
  rcases zhk_cases C.2.1 (by omega) a with e | ⟨e, m, hm, rfl⟩
  · refine both (v := (-1)) (h1 := (zmk r c c c2 I J Q N A U V X S t)) (h2 := (zmk r c c c2 I J Q N A U V X S t)) ?_ ?_ (st_mk iv t1 t2)
    · simp only [E_X5_down_0, mo_0, mg_0_0, mg_0_1, mg_0_2, mg_0_3, mg_0_4, mg_0_5, mg_0_6, mg_0_7, mg_0_8, mg_0_9, mg_0_10, mg_0_11, Option.bind_some, (hC ..).1, if_true, cr_man (hC ..), e, zcI_some]
    · simp only [E_X6_down_0, mo_49, mg_49_0, mg_49_1, mg_49_2, mg_49_3, mg_49_4, mg_49_5, mg_49_6, mg_49_7, mg_49_8, mg_49_9, mg_49_10, mg_49_11, mg_49_12, mg_49_13, mg_49_14, mg_49_15, mg_49_16, mg_49_17, mg_49_18, mg_49_19, mg_49_20, mg_49_21, mg_49_22, mg_49_23, mg_49_24, mg_49_25, if_true, m_man mv k, e, zcI_some]
  have em : (1 : Int32) + nI m = nI (1 + m) := nI_add 1 m
  have xm : X 0 (1 + m) = N.1 m := ((no.2.2 m hm).1).symm
  have h6 : m < 6 := by omega
  by_cases w : N.1 m = -9
  · refine both (v := (-4)) (h1 := (zmk r c c c2 I J Q N A U V X S t)) (h2 := (zmk r c c c2 I J Q N A U V X S t)) ?_ ?_ (st_mk iv t1 t2)
    · simp only [E_X5_down_0, mo_0, mg_0_0, mg_0_1, mg_0_2, mg_0_3, mg_0_4, mg_0_5, mg_0_6, mg_0_7, mg_0_8, mg_0_9, mg_0_10, mg_0_11, mo_9, Option.bind_some, (hC ..).1, if_true, cr_man (hC ..), e, i01, if_false, b_hangs (nBx hC) h6, w, zcI_some]
    · simp only [E_X6_down_0, mo_49, mg_49_0, mg_49_1, mg_49_2, mg_49_3, mg_49_4, mg_49_5, mg_49_6, mg_49_7, mg_49_8, mg_49_9, mg_49_10, mg_49_11, mg_49_12, mg_49_13, mg_49_14, mg_49_15, mg_49_16, mg_49_17, mg_49_18, mg_49_19, mg_49_20, mg_49_21, mg_49_22, mg_49_23, mg_49_24, mg_49_25, if_true, m_man mv k, e, i01, if_false, em, ma_50 (show 1 + m < 4396 by omega), xm, w, Option.bind_some, zcI_some]
  · have ms0 : ∀ {c0 c1 : Nat} {I J Q N A S t}, zaI r (zmk r c0 c1 c2 I J Q N A U V X S t) (r.1 + 50) 0 = some (nI d) := fun {_ _ _ _ _ _ _ _ _} => (ma_50 (j := 0) (by decide)).trans (by rw [d0])
    by_cases z : d = 60
    · have z1 : nI d = 60 := (d60 d6).mpr z
      refine both (v := (-2)) (h1 := (zmk r c c c2 I J Q N A U V X S t)) (h2 := (zmk r c c c2 I J Q N A U V X S t)) ?_ ?_ (st_mk iv t1 t2)
      · simp only [E_X5_down_0, mo_0, mg_0_0, mg_0_1, mg_0_2, mg_0_3, mg_0_4, mg_0_5, mg_0_6, mg_0_7, mg_0_8, mg_0_9, mg_0_10, mg_0_11, mo_9, mo_19, Option.bind_some, (hC ..).1, if_true, cr_man (hC ..), e, i01, if_false, b_hangs (nBx hC) h6, w, g_room1 hd d6, z, zcI_some]
      · simp only [E_X6_down_0, mo_49, mg_49_0, mg_49_1, mg_49_2, mg_49_3, mg_49_4, mg_49_5, mg_49_6, mg_49_7, mg_49_8, mg_49_9, mg_49_10, mg_49_11, mg_49_12, mg_49_13, mg_49_14, mg_49_15, mg_49_16, mg_49_17, mg_49_18, mg_49_19, mg_49_20, mg_49_21, mg_49_22, mg_49_23, mg_49_24, mg_49_25, if_true, m_man mv k, e, i01, if_false, em, ma_50 (show 1 + m < 4396 by omega), xm, w, ms0, z1, Option.bind_some, zcI_some]
    · have z1 : ¬ nI d = 60 := fun q => z ((d60 d6).mp q)
      have z2 : d < 60 := by omega
      obtain ⟨G', e1, c1⟩ := b_move (nBx (c0 := c) (c2 := c2) (I := I) (J := J) (Q := Q) (A := A) (U := U) (V := V) (X := X) (S := S) hC) k (B := N) no.1 hm (h := -9) (.inl (.inl rfl))
      have iv2 := iv_deed' iv hp z2 (upd N.1 m (-9), G', N.2.2.1, N.2.2.2) c1 no.2.1 (upd (zKp (X 0) d) (1 + m) (-9)) (fun q hq => by
        obtain ⟨b1, b2, b3⟩ := no.2.2 q hq
        refine ⟨?_, ?_, ?_⟩
        · show _ = upd N.1 m (-9) q
          by_cases w : q = m
          · subst w; rw [upd_s, upd_s]
          · rw [upd_n w, upd_n (by omega), kp_c (by omega) (by omega), b1]
        · rw [upd_n (by omega), kp_c (by omega) (by omega), b2]
        · rw [upd_n (by omega), kp_c (by omega) (by omega), b3]) (fun i hi => upd_n (by omega))
      have kx : zKp (X 0) d (1 + m) = N.1 m := (kp_c (by omega) (by omega)).trans xm
      refine both (v := (N.1 m)) (h1 := (zmk r c c c2 (va_up I 2 (nI (d + 1))) J (va_up Q 9 (zWr (Q 9) (upd N.1 m (-9), G', N.2.2.1, N.2.2.2) (18 * (d + 1)))) ((upd N.1 m (-9), G', N.2.2.1, N.2.2.2)) A U V X S t)) (h2 := (zmk r c c c2 (va_up I 2 (nI (d + 1))) J (va_up Q 9 (zWr (Q 9) (upd N.1 m (-9), G', N.2.2.1, N.2.2.2) (18 * (d + 1)))) ((upd N.1 m (-9), G', N.2.2.1, N.2.2.2)) A U V (va_up X 0 (upd (zKp (X 0) d) (1 + m) (-9))) S t)) ?_ ?_ (st_mk iv2 t1 t2)
      · simp only [E_X5_down_0, mo_0, mg_0_0, mg_0_1, mg_0_2, mg_0_3, mg_0_4, mg_0_5, mg_0_6, mg_0_7, mg_0_8, mg_0_9, mg_0_10, mg_0_11, mo_9, mg_9_1, ma_10 h6, mo_19, Option.bind_some, (hC ..).1, if_true, cr_man (hC ..), e, i01, if_false, b_hangs (nBx hC) h6, w, g_room1 hd d6, z, zcI_some, e1, zcV_some, g_add hd z2]
      · simp only [E_X6_down_0, mo_49, mg_49_0, mg_49_1, mg_49_2, mg_49_3, mg_49_4, mg_49_5, mg_49_6, mg_49_7, mg_49_8, mg_49_9, mg_49_10, mg_49_11, mg_49_12, mg_49_13, mg_49_14, mg_49_15, mg_49_16, mg_49_17, mg_49_18, mg_49_19, mg_49_20, mg_49_21, mg_49_22, mg_49_23, mg_49_24, mg_49_25, if_true, m_man mv k, e, i01, if_false, em, ma_50 (show 1 + m < 4396 by omega), xm, w, ms0, z1, Option.bind_some, zcI_some, m_keepp d0 z2, zcV_some, mw_50 (show 1 + m < 4396 by omega), va_same, bx_uu, kx]
theorem m_two (mv : zMv C U X) (k : zCk C) (a b : Int32) : zev r i_X6_areTwo 0 [some (.ref (r.1 + 49)), some (.int a), some (.int b)] [] (zmk r c0 c1 c2 I J Q N A U V X S t) = some (some (.int (if zhk C.2.1 a = 0 then 0 else if zhk C.2.1 b = 0 then 0 else if a = b then 0 else 1)), zmk r c0 c1 c2 I J Q N A U V X S t) := by
  simp only [E_X6_areTwo_0, mo_49, mg_49_0, mg_49_1, mg_49_2, mg_49_3, mg_49_4, mg_49_5, mg_49_6, mg_49_7, mg_49_8, mg_49_9, mg_49_10, mg_49_11, mg_49_12, mg_49_13, mg_49_14, mg_49_15, mg_49_16, mg_49_17, mg_49_18, mg_49_19, mg_49_20, mg_49_21, mg_49_22, mg_49_23, mg_49_24, mg_49_25, if_true, m_man mv k, zcI_some]
  repeat' split
  all_goals rfl
theorem lk_change (a b : Int32) {h : zH} (st : zSt r n h) : zBoth r n n (zev r i_X5_change 0 [some (.ref (r.1 + 0)), some (.int a), some (.int b)] []) (zev r i_X6_change 0 [some (.ref (r.1 + 49)), some (.int a), some (.int b), none] []) h := by
  obtain ⟨C, c, c2, I, J, Q, N, A, U, V, X, S, t, rfl, iv, t1, t2⟩ := st
  obtain ⟨k, hC, mv, _, _, _, no, ⟨d, hd, hp⟩, -⟩ := id iv
  have k1 := k.1
  have k2 := k.2.1
  have d6 := hp.1
  have d0 : X 0 0 = nI d := hp.2.1
  have g_room1 := @g_room1
  rcases zhk_cases C.2.1 (by omega) a with e | ⟨e, m, hm, rfl⟩
  · refine both (v := (-1)) (h1 := (zmk r c c c2 I J Q N A U V X S t)) (h2 := (zmk r c c c2 I J Q N A U V X S t)) ?_ ?_ (st_mk iv t1 t2)
    · simp only [E_X5_change_0, mo_0, mg_0_0, mg_0_1, mg_0_2, mg_0_3, mg_0_4, mg_0_5, mg_0_6, mg_0_7, mg_0_8, mg_0_9, mg_0_10, mg_0_11, Option.bind_some, (hC ..).1, if_true, cr_man (hC ..), e, zcI_some]
    · simp only [E_X6_change_0, mo_49, mg_49_0, mg_49_1, mg_49_2, mg_49_3, mg_49_4, mg_49_5, mg_49_6, mg_49_7, mg_49_8, mg_49_9, mg_49_10, mg_49_11, mg_49_12, mg_49_13, mg_49_14, mg_49_15, mg_49_16, mg_49_17, mg_49_18, mg_49_19, mg_49_20, mg_49_21, mg_49_22, mg_49_23, mg_49_24, mg_49_25, if_true, m_two mv k, e, zcI_some]
  rcases zhk_cases C.2.1 (by omega) b with f | ⟨f, q, hq, rfl⟩
  · refine both (v := (-1)) (h1 := (zmk r c c c2 I J Q N A U V X S t)) (h2 := (zmk r c c c2 I J Q N A U V X S t)) ?_ ?_ (st_mk iv t1 t2)
    · simp only [E_X5_change_0, mo_0, mg_0_0, mg_0_1, mg_0_2, mg_0_3, mg_0_4, mg_0_5, mg_0_6, mg_0_7, mg_0_8, mg_0_9, mg_0_10, mg_0_11, Option.bind_some, (hC ..).1, if_true, cr_man (hC ..), e, f, i01, if_false, zcI_some]
    · simp only [E_X6_change_0, mo_49, mg_49_0, mg_49_1, mg_49_2, mg_49_3, mg_49_4, mg_49_5, mg_49_6, mg_49_7, mg_49_8, mg_49_9, mg_49_10, mg_49_11, mg_49_12, mg_49_13, mg_49_14, mg_49_15, mg_49_16, mg_49_17, mg_49_18, mg_49_19, mg_49_20, mg_49_21, mg_49_22, mg_49_23, mg_49_24, mg_49_25, if_true, m_two mv k, e, f, i01, if_false, zcI_some]
  by_cases u : m = q
  · subst u
    refine both (v := (-1)) (h1 := (zmk r c c c2 I J Q N A U V X S t)) (h2 := (zmk r c c c2 I J Q N A U V X S t)) ?_ ?_ (st_mk iv t1 t2)
    · simp only [E_X5_change_0, mo_0, mg_0_0, mg_0_1, mg_0_2, mg_0_3, mg_0_4, mg_0_5, mg_0_6, mg_0_7, mg_0_8, mg_0_9, mg_0_10, mg_0_11, Option.bind_some, (hC ..).1, if_true, cr_man (hC ..), e, i01, if_false, zcI_some]
    · simp only [E_X6_change_0, mo_49, mg_49_0, mg_49_1, mg_49_2, mg_49_3, mg_49_4, mg_49_5, mg_49_6, mg_49_7, mg_49_8, mg_49_9, mg_49_10, mg_49_11, mg_49_12, mg_49_13, mg_49_14, mg_49_15, mg_49_16, mg_49_17, mg_49_18, mg_49_19, mg_49_20, mg_49_21, mg_49_22, mg_49_23, mg_49_24, mg_49_25, if_true, m_two mv k, e, i01, if_false, zcI_some]
  have u1 : ¬ nI m = nI q := fun z => u ((nI_eq (by omega) (by omega)).mp z)
  have em : (1 : Int32) + nI m = nI (1 + m) := nI_add 1 m
  have eq : (1 : Int32) + nI q = nI (1 + q) := nI_add 1 q
  have xm : X 0 (1 + m) = N.1 m := ((no.2.2 m hm).1).symm
  have xq : X 0 (1 + q) = N.1 q := ((no.2.2 q hq).1).symm
  have h6 : m < 6 := by omega
  have q6 : q < 6 := by omega
  have ms0 : ∀ {c0 c1 : Nat} {I J Q N A S t}, zaI r (zmk r c0 c1 c2 I J Q N A U V X S t) (r.1 + 50) 0 = some (nI d) := fun {_ _ _ _ _ _ _ _ _} => (ma_50 (j := 0) (by decide)).trans (by rw [d0])
  by_cases w : N.1 m = -9 ∧ N.1 q = -9
  · refine both (v := (-4)) (h1 := (zmk r c c c2 I J Q N A U V X S t)) (h2 := (zmk r c c c2 I J Q N A U V X S t)) ?_ ?_ (st_mk iv t1 t2)
    · simp only [E_X5_change_0, mo_0, mg_0_0, mg_0_1, mg_0_2, mg_0_3, mg_0_4, mg_0_5, mg_0_6, mg_0_7, mg_0_8, mg_0_9, mg_0_10, mg_0_11, mo_9, Option.bind_some, (hC ..).1, if_true, cr_man (hC ..), e, f, i01, if_false, u1, b_hangs (nBx hC) h6, b_hangs (nBx hC) q6, w.1, w.2, zcI_some]
    · simp only [E_X6_change_0, mo_49, mg_49_0, mg_49_1, mg_49_2, mg_49_3, mg_49_4, mg_49_5, mg_49_6, mg_49_7, mg_49_8, mg_49_9, mg_49_10, mg_49_11, mg_49_12, mg_49_13, mg_49_14, mg_49_15, mg_49_16, mg_49_17, mg_49_18, mg_49_19, mg_49_20, mg_49_21, mg_49_22, mg_49_23, mg_49_24, mg_49_25, if_true, m_two mv k, e, f, i01, if_false, u1, em, eq, ma_50 (show 1 + m < 4396 by omega), ma_50 (show 1 + q < 4396 by omega), xm, xq, w.1, w.2, Option.bind_some, zcI_some]
  have g1 : zev r i_X5_change 0 [some (.ref (r.1 + 0)), some (.int (nI m)), some (.int (nI q))] [] (zmk r c c c2 I J Q N A U V X S t) = zev r i_X5_change 54 [some (.ref (r.1 + 0)), some (.int (nI m)), some (.int (nI q))] [] (zmk r c c c2 I J Q N A U V X S t) := by
    by_cases w1 : N.1 m = -9
    · have w2 : ¬ N.1 q = -9 := fun z => w ⟨w1, z⟩
      simp only [E_X5_change_0, mo_0, mg_0_0, mg_0_1, mg_0_2, mg_0_3, mg_0_4, mg_0_5, mg_0_6, mg_0_7, mg_0_8, mg_0_9, mg_0_10, mg_0_11, mo_9, Option.bind_some, (hC ..).1, if_true, cr_man (hC ..), e, f, i01, if_false, u1, b_hangs (nBx hC) h6, b_hangs (nBx hC) q6, w1, w2, zcI_some]
    · simp only [E_X5_change_0, mo_0, mg_0_0, mg_0_1, mg_0_2, mg_0_3, mg_0_4, mg_0_5, mg_0_6, mg_0_7, mg_0_8, mg_0_9, mg_0_10, mg_0_11, mo_9, Option.bind_some, (hC ..).1, if_true, cr_man (hC ..), e, f, i01, if_false, u1, b_hangs (nBx hC) h6, w1, zcI_some]
  have g2 : ∀ (I : zA) (Q : Nat → zA) (N' : zBr), zev r i_X6_change 0 [some (.ref (r.1 + 49)), some (.int (nI m)), some (.int (nI q)), none] [] (zmk r c c c2 I J Q (N') A U V X S t) = zev r i_X6_change 42 [some (.ref (r.1 + 49)), some (.int (nI m)), some (.int (nI q)), some (.int (N.1 m))] [] (zmk r c c c2 I J Q (N') A U V X S t) := by
    intro I Q N'
    by_cases w1 : N.1 m = -9
    · have w2 : ¬ N.1 q = -9 := fun z => w ⟨w1, z⟩
      simp only [E_X6_change_0, mo_49, mg_49_0, mg_49_1, mg_49_2, mg_49_3, mg_49_4, mg_49_5, mg_49_6, mg_49_7, mg_49_8, mg_49_9, mg_49_10, mg_49_11, mg_49_12, mg_49_13, mg_49_14, mg_49_15, mg_49_16, mg_49_17, mg_49_18, mg_49_19, mg_49_20, mg_49_21, mg_49_22, mg_49_23, mg_49_24, mg_49_25, if_true, m_two mv k, e, f, i01, if_false, u1, em, eq, ma_50 (show 1 + m < 4396 by omega), ma_50 (show 1 + q < 4396 by omega), xm, xq, w1, w2, Option.bind_some, zcI_some]
    · simp only [E_X6_change_0, mo_49, mg_49_0, mg_49_1, mg_49_2, mg_49_3, mg_49_4, mg_49_5, mg_49_6, mg_49_7, mg_49_8, mg_49_9, mg_49_10, mg_49_11, mg_49_12, mg_49_13, mg_49_14, mg_49_15, mg_49_16, mg_49_17, mg_49_18, mg_49_19, mg_49_20, mg_49_21, mg_49_22, mg_49_23, mg_49_24, mg_49_25, if_true, m_two mv k, e, f, i01, if_false, u1, em, eq, ma_50 (show 1 + m < 4396 by omega), ma_50 (show 1 + q < 4396 by omega), xm, xq, w1, Option.bind_some, zcI_some]
  by_cases z : d = 60
  · have z1 : nI d = 60 := (d60 d6).mpr z
    refine both (v := (-2)) (h1 := (zmk r c c c2 I J Q N A U V X S t)) (h2 := (zmk r c c c2 I J Q N A U V X S t)) ?_ ?_ (st_mk iv t1 t2)
    · rw [g1]
      simp only [E_X5_change_54, mo_0, mg_0_0, mg_0_1, mg_0_2, mg_0_3, mg_0_4, mg_0_5, mg_0_6, mg_0_7, mg_0_8, mg_0_9, mg_0_10, mg_0_11, mo_19, Option.bind_some, if_true, g_room1 hd d6, z, zcI_some]
    · rw [g2]
      simp only [E_X6_change_42, mo_49, mg_49_0, mg_49_1, mg_49_2, mg_49_3, mg_49_4, mg_49_5, mg_49_6, mg_49_7, mg_49_8, mg_49_9, mg_49_10, mg_49_11, mg_49_12, mg_49_13, mg_49_14, mg_49_15, mg_49_16, mg_49_17, mg_49_18, mg_49_19, mg_49_20, mg_49_21, mg_49_22, mg_49_23, mg_49_24, mg_49_25, Option.bind_some, ms0, z1, if_true]
  · have z1 : ¬ nI d = 60 := fun q => z ((d60 d6).mp q)
    have z2 : d < 60 := by omega
    obtain ⟨G', e1, c1⟩ := b_swap (nBx (c0 := c) (c2 := c2) (I := I) (J := J) (Q := Q) (A := A) (U := U) (V := V) (X := X) (S := S) hC) k (B := N) no.1 hm hq u
    have iv2 := iv_deed' iv hp z2 (upd (upd N.1 q (N.1 m)) m (N.1 q), G', N.2.2.1, N.2.2.2) c1 no.2.1 (upd (upd (zKp (X 0) d) (1 + m) (N.1 q)) (1 + q) (N.1 m)) (fun p hp => by
      obtain ⟨b1, b2, b3⟩ := no.2.2 p hp
      refine ⟨?_, ?_, ?_⟩
      · show _ = upd (upd N.1 q (N.1 m)) m (N.1 q) p
        by_cases w : p = q
        · subst w; rw [upd_s, upd_n (Ne.symm u), upd_s]
        · rw [upd_n (by omega)]
          by_cases w2 : p = m
          · subst w2; rw [upd_s, upd_s]
          · rw [upd_n (by omega), upd_n w2, upd_n w, kp_c (by omega) (by omega), b1]
      · rw [upd_n (by omega), upd_n (by omega), kp_c (by omega) (by omega), b2]
      · rw [upd_n (by omega), upd_n (by omega), kp_c (by omega) (by omega), b3]) (fun i hi => by rw [upd_n (by omega), upd_n (by omega)])
    have kq : zKp (X 0) d (1 + q) = N.1 q := (kp_c (by omega) (by omega)).trans xq
    refine both (v := 1) (h1 := (zmk r c c c2 (va_up I 2 (nI (d + 1))) J (va_up Q 9 (zWr (Q 9) (upd (upd N.1 q (N.1 m)) m (N.1 q), G', N.2.2.1, N.2.2.2) (18 * (d + 1)))) ((upd (upd N.1 q (N.1 m)) m (N.1 q), G', N.2.2.1, N.2.2.2)) A U V X S t)) (h2 := (zmk r c c c2 (va_up I 2 (nI (d + 1))) J (va_up Q 9 (zWr (Q 9) (upd (upd N.1 q (N.1 m)) m (N.1 q), G', N.2.2.1, N.2.2.2) (18 * (d + 1)))) ((upd (upd N.1 q (N.1 m)) m (N.1 q), G', N.2.2.1, N.2.2.2)) A U V (va_up X 0 (upd (upd (zKp (X 0) d) (1 + m) (N.1 q)) (1 + q) (N.1 m))) S t)) ?_ ?_ (st_mk iv2 t1 t2)
    · rw [g1]
      simp only [E_X5_change_54, mo_0, mg_0_0, mg_0_1, mg_0_2, mg_0_3, mg_0_4, mg_0_5, mg_0_6, mg_0_7, mg_0_8, mg_0_9, mg_0_10, mg_0_11, mo_9, mo_19, Option.bind_some, if_true, g_room1 hd d6, z, i01, if_false, zcI_some, e1, zcV_some, g_add hd z2]
    · rw [g2]
      simp only [E_X6_change_42, mo_49, mg_49_0, mg_49_1, mg_49_2, mg_49_3, mg_49_4, mg_49_5, mg_49_6, mg_49_7, mg_49_8, mg_49_9, mg_49_10, mg_49_11, mg_49_12, mg_49_13, mg_49_14, mg_49_15, mg_49_16, mg_49_17, mg_49_18, mg_49_19, mg_49_20, mg_49_21, mg_49_22, mg_49_23, mg_49_24, mg_49_25, Option.bind_some, ms0, z1, if_true, if_false, m_keepp d0 z2, zcV_some, em, eq, ma_50 (show 1 + q < 4396 by omega), mw_50 (show 1 + m < 4396 by omega), mw_50 (show 1 + q < 4396 by omega), va_same, bx_uu, kq]
theorem lk_line (a v : Int32) {h : zH} (st : zSt r n h) : zBoth r n n (zev r i_X5_line 0 [some (.ref (r.1 + 0)), some (.int a), some (.int v), none] []) (zev r i_X6_line 0 [some (.ref (r.1 + 49)), some (.int a), some (.int v), none] []) h := by
  obtain ⟨C, c, c2, I, J, Q, N, A, U, V, X, S, t, rfl, iv, t1, t2⟩ := st
  obtain ⟨k, hC, mv, _, _, _, no, ⟨d, hd, hp⟩, -⟩ := id iv
  have k1 := k.1
  have k2 := k.2.1
  have d6 := hp.1
  have d0 : X 0 0 = nI d := hp.2.1
  have g_room1 := @g_room1
  rcases zhk_cases C.2.1 (by omega) a with e | ⟨e, m, hm, rfl⟩
  · refine both (v := (-1)) (h1 := (zmk r c c c2 I J Q N A U V X S t)) (h2 := (zmk r c c c2 I J Q N A U V X S t)) ?_ ?_ (st_mk iv t1 t2)
    · simp only [E_X5_line_0, mo_0, mg_0_0, mg_0_1, mg_0_2, mg_0_3, mg_0_4, mg_0_5, mg_0_6, mg_0_7, mg_0_8, mg_0_9, mg_0_10, mg_0_11, Option.bind_some, (hC ..).1, if_true, cr_man (hC ..), e, zcI_some]
    · simp only [E_X6_line_0, mo_49, mg_49_0, mg_49_1, mg_49_2, mg_49_3, mg_49_4, mg_49_5, mg_49_6, mg_49_7, mg_49_8, mg_49_9, mg_49_10, mg_49_11, mg_49_12, mg_49_13, mg_49_14, mg_49_15, mg_49_16, mg_49_17, mg_49_18, mg_49_19, mg_49_20, mg_49_21, mg_49_22, mg_49_23, mg_49_24, mg_49_25, if_true, m_man mv k, e, zcI_some]
  have em : (7 : Int32) + nI m = nI (7 + m) := nI_add 7 m
  have xm : X 0 (7 + m) = N.2.2.1 m := ((no.2.2 m hm).2.1).symm
  have h6 : m < 6 := by omega
  by_cases l1 : v < 1
  · refine both (v := (-1)) (h1 := (zmk r c c c2 I J Q N A U V X S t)) (h2 := (zmk r c c c2 I J Q N A U V X S t)) ?_ ?_ (st_mk iv t1 t2)
    · simp only [E_X5_line_0, mo_0, mg_0_0, mg_0_1, mg_0_2, mg_0_3, mg_0_4, mg_0_5, mg_0_6, mg_0_7, mg_0_8, mg_0_9, mg_0_10, mg_0_11, Option.bind_some, (hC ..).1, if_true, cr_man (hC ..), e, i01, if_false, l1, zcI_some]
    · simp only [E_X6_line_0, mo_49, mg_49_0, mg_49_1, mg_49_2, mg_49_3, mg_49_4, mg_49_5, mg_49_6, mg_49_7, mg_49_8, mg_49_9, mg_49_10, mg_49_11, mg_49_12, mg_49_13, mg_49_14, mg_49_15, mg_49_16, mg_49_17, mg_49_18, mg_49_19, mg_49_20, mg_49_21, mg_49_22, mg_49_23, mg_49_24, mg_49_25, if_true, m_man mv k, e, i01, if_false, m_in r _ v 1 9 (l := 1) (k := 9) rfl rfl, zbw, l1, zcI_some]
  by_cases l2 : 9 < v
  · refine both (v := (-1)) (h1 := (zmk r c c c2 I J Q N A U V X S t)) (h2 := (zmk r c c c2 I J Q N A U V X S t)) ?_ ?_ (st_mk iv t1 t2)
    · simp only [E_X5_line_0, mo_0, mg_0_0, mg_0_1, mg_0_2, mg_0_3, mg_0_4, mg_0_5, mg_0_6, mg_0_7, mg_0_8, mg_0_9, mg_0_10, mg_0_11, Option.bind_some, (hC ..).1, if_true, cr_man (hC ..), e, i01, if_false, l1, l2, zcI_some]
    · simp only [E_X6_line_0, mo_49, mg_49_0, mg_49_1, mg_49_2, mg_49_3, mg_49_4, mg_49_5, mg_49_6, mg_49_7, mg_49_8, mg_49_9, mg_49_10, mg_49_11, mg_49_12, mg_49_13, mg_49_14, mg_49_15, mg_49_16, mg_49_17, mg_49_18, mg_49_19, mg_49_20, mg_49_21, mg_49_22, mg_49_23, mg_49_24, mg_49_25, if_true, m_man mv k, e, i01, if_false, m_in r _ v 1 9 (l := 1) (k := 9) rfl rfl, zbw, l1, l2, zcI_some]
  by_cases w : N.2.2.1 m = v
  · refine both (v := (-4)) (h1 := (zmk r c c c2 I J Q N A U V X S t)) (h2 := (zmk r c c c2 I J Q N A U V X S t)) ?_ ?_ (st_mk iv t1 t2)
    · simp only [E_X5_line_0, mo_0, mg_0_0, mg_0_1, mg_0_2, mg_0_3, mg_0_4, mg_0_5, mg_0_6, mg_0_7, mg_0_8, mg_0_9, mg_0_10, mg_0_11, mg_9_3, ma_12 h6, Option.bind_some, (hC ..).1, if_true, cr_man (hC ..), e, i01, if_false, l1, l2, w, zcI_some]
    · simp only [E_X6_line_0, mo_49, mg_49_0, mg_49_1, mg_49_2, mg_49_3, mg_49_4, mg_49_5, mg_49_6, mg_49_7, mg_49_8, mg_49_9, mg_49_10, mg_49_11, mg_49_12, mg_49_13, mg_49_14, mg_49_15, mg_49_16, mg_49_17, mg_49_18, mg_49_19, mg_49_20, mg_49_21, mg_49_22, mg_49_23, mg_49_24, mg_49_25, if_true, m_man mv k, e, i01, if_false, m_in r _ v 1 9 (l := 1) (k := 9) rfl rfl, zbw, l1, l2, em, ma_50 (show 7 + m < 4396 by omega), xm, w, Option.bind_some, zcI_some]
  · have ms0 : ∀ {c0 c1 : Nat} {I J Q N A S t}, zaI r (zmk r c0 c1 c2 I J Q N A U V X S t) (r.1 + 50) 0 = some (nI d) := fun {_ _ _ _ _ _ _ _ _} => (ma_50 (j := 0) (by decide)).trans (by rw [d0])
    by_cases z : d = 60
    · have z1 : nI d = 60 := (d60 d6).mpr z
      refine both (v := (-2)) (h1 := (zmk r c c c2 I J Q N A U V X S t)) (h2 := (zmk r c c c2 I J Q N A U V X S t)) ?_ ?_ (st_mk iv t1 t2)
      · simp only [E_X5_line_0, mo_0, mg_0_0, mg_0_1, mg_0_2, mg_0_3, mg_0_4, mg_0_5, mg_0_6, mg_0_7, mg_0_8, mg_0_9, mg_0_10, mg_0_11, mg_9_3, ma_12 h6, mo_19, Option.bind_some, (hC ..).1, if_true, cr_man (hC ..), e, i01, if_false, l1, l2, w, g_room1 hd d6, z, zcI_some]
      · simp only [E_X6_line_0, mo_49, mg_49_0, mg_49_1, mg_49_2, mg_49_3, mg_49_4, mg_49_5, mg_49_6, mg_49_7, mg_49_8, mg_49_9, mg_49_10, mg_49_11, mg_49_12, mg_49_13, mg_49_14, mg_49_15, mg_49_16, mg_49_17, mg_49_18, mg_49_19, mg_49_20, mg_49_21, mg_49_22, mg_49_23, mg_49_24, mg_49_25, if_true, m_man mv k, e, i01, if_false, m_in r _ v 1 9 (l := 1) (k := 9) rfl rfl, zbw, l1, l2, em, ma_50 (show 7 + m < 4396 by omega), xm, w, ms0, z1, Option.bind_some, zcI_some]
    · have z1 : ¬ nI d = 60 := fun q => z ((d60 d6).mp q)
      have z2 : d < 60 := by omega
      have lv : ∃ p, p < 10 ∧ v = nI p := by
        obtain ⟨p, hp, ep⟩ := nI_of2 (M := 9) (n := 9) (by decide) (x := v) (fun q => l1 (Int32.lt_of_lt_of_le q (by decide))) (Int32.not_lt.mp l2)
        exact ⟨p, by omega, ep⟩
      have iv2 := iv_deed' iv hp z2 (N.1, N.2.1, upd N.2.2.1 m v, N.2.2.2) no.1 (fun q hq => by
        show ∃ a, a < 10 ∧ upd N.2.2.1 m v q = nI a
        by_cases w : q = m
        · subst w; rw [upd_s]; exact lv
        · rw [upd_n w]; exact no.2.1 q hq) (upd (zKp (X 0) d) (7 + m) v) (fun q hq => by
        obtain ⟨b1, b2, b3⟩ := no.2.2 q hq
        refine ⟨?_, ?_, ?_⟩
        · rw [upd_n (by omega), kp_c (by omega) (by omega), b1]
        · show _ = upd N.2.2.1 m v q
          by_cases w : q = m
          · subst w; rw [upd_s, upd_s]
          · rw [upd_n w, upd_n (by omega), kp_c (by omega) (by omega), b2]
        · rw [upd_n (by omega), kp_c (by omega) (by omega), b3]) (fun i hi => upd_n (by omega))
      refine both (v := (N.2.2.1 m)) (h1 := (zmk r c c c2 (va_up I 2 (nI (d + 1))) J (va_up Q 9 (zWr (Q 9) (N.1, N.2.1, upd N.2.2.1 m v, N.2.2.2) (18 * (d + 1)))) ((N.1, N.2.1, upd N.2.2.1 m v, N.2.2.2)) A U V X S t)) (h2 := (zmk r c c c2 (va_up I 2 (nI (d + 1))) J (va_up Q 9 (zWr (Q 9) (N.1, N.2.1, upd N.2.2.1 m v, N.2.2.2) (18 * (d + 1)))) ((N.1, N.2.1, upd N.2.2.1 m v, N.2.2.2)) A U V (va_up X 0 (upd (zKp (X 0) d) (7 + m) v)) S t)) ?_ ?_ (st_mk iv2 t1 t2)
      · simp only [E_X5_line_0, mo_0, mg_0_0, mg_0_1, mg_0_2, mg_0_3, mg_0_4, mg_0_5, mg_0_6, mg_0_7, mg_0_8, mg_0_9, mg_0_10, mg_0_11, mo_9, mg_9_3, ma_12 h6, mw_12 h6, mo_19, Option.bind_some, (hC ..).1, if_true, cr_man (hC ..), e, i01, if_false, l1, l2, w, g_room1 hd d6, z, zcI_some, zcV_some, g_add hd z2]
      · simp only [E_X6_line_0, mo_49, mg_49_0, mg_49_1, mg_49_2, mg_49_3, mg_49_4, mg_49_5, mg_49_6, mg_49_7, mg_49_8, mg_49_9, mg_49_10, mg_49_11, mg_49_12, mg_49_13, mg_49_14, mg_49_15, mg_49_16, mg_49_17, mg_49_18, mg_49_19, mg_49_20, mg_49_21, mg_49_22, mg_49_23, mg_49_24, mg_49_25, if_true, m_man mv k, e, i01, if_false, m_in r _ v 1 9 (l := 1) (k := 9) rfl rfl, zbw, l1, l2, em, ma_50 (show 7 + m < 4396 by omega), xm, w, ms0, z1, Option.bind_some, zcI_some, m_keepp d0 z2, zcV_some, mw_50 (show 7 + m < 4396 by omega), va_same, bx_uu]
end DEEDS2
