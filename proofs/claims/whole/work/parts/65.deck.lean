/-! DECK: the class's side; both alike -/
section DECK
variable {r : zE} {c0 c1 c2 : Nat} {I : Nat → Int32} {J : Nat → Int64} {Q : Nat → Nat → Int32} {N A : zBr} {U : Nat → Int32} {V : Nat → Int64} {X : Nat → Nat → Int32} {S : zSs} {t : zH} {C : zCs} {c n : Nat}
theorem ct_d {b : Nat} {s : zRd} {C' : zCs} (h1 : C'.1 = s.2.1) (h2 : C'.2.1 = s.2.2.1) (i7 : s.2.1 ≤ 7) (i6 : s.2.2.1 ≤ 6) (hP : ∀ i, i < C'.1 → s.2.2.2.1 i = C'.2.2.1 i) (hK : ∀ i, i < C'.2.1 → s.2.2.2.2.1 i = C'.2.2.2.1 i) (hW : ∀ i, i < C'.2.1 → s.2.2.2.2.2.2.1 i = C'.2.2.2.2.1 i) (hM : ∀ i, i < C'.2.1 → s.2.2.2.2.2.2.2 i = C'.2.2.2.2.2 i) : zCt r (t ++ zTd r t b s) (65 + t.length) C' := fun c0 c1 c2 I J Q N A U V X S => by
  have e0 : (zmk r c0 c1 c2 I J Q N A U V X S (t ++ zTd r t b s))[65 + t.length]? = some (.inr (.inr (1, [.int (nI s.2.1), .int (nI s.2.2.1), .ref (r.1 + (65 + t.length + 0) + 1), .ref (r.1 + (65 + t.length + 0) + 2), .ref (r.1 + (65 + t.length + 0) + 3), .ref (r.1 + (65 + t.length + 0) + 4), .ref (r.1 + (65 + t.length + 0) + 5)]))) := zmk_at (i := 0)
  have e1 : (zmk r c0 c1 c2 I J Q N A U V X S (t ++ zTd r t b s))[65 + t.length + 1]? = some (.inl (7, s.2.2.2.1)) := zmk_at (i := 1)
  have e2 : (zmk r c0 c1 c2 I J Q N A U V X S (t ++ zTd r t b s))[65 + t.length + 2]? = some (.inl (6, s.2.2.2.2.1)) := zmk_at (i := 2)
  have e4 : (zmk r c0 c1 c2 I J Q N A U V X S (t ++ zTd r t b s))[65 + t.length + 4]? = some (.inl (6, s.2.2.2.2.2.2.1)) := zmk_at (i := 4)
  have e5 : (zmk r c0 c1 c2 I J Q N A U V X S (t ++ zTd r t b s))[65 + t.length + 5]? = some (.inl (6, s.2.2.2.2.2.2.2)) := zmk_at (i := 5)
  refine ⟨zob_of e0, ?_, ?_, zgR_of e0 rfl, zgR_of e0 rfl, zgR_of e0 rfl, zgR_of e0 rfl, fun j hj => ?_, fun j hj => ?_, fun j hj => ?_, fun j hj => ?_⟩
  · rw [h1]; exact zgI_of e0 rfl
  · rw [h2]; exact zgI_of e0 rfl
  · rw [← hP j hj]; exact zaI_of e1 (by omega) (by decide)
  · rw [← hK j hj]; exact zaI_of e2 (by omega) (by decide)
  · rw [← hW j hj]; exact zaI_of e4 (by omega) (by decide)
  · rw [← hM j hj]; exact zaI_of e5 (by omega) (by decide)
theorem k_begin {b : Nat} {s : zRd} (k : zCk C) (hC : zCt r (t ++ zTd r t b s) (65 + t.length) C) : ∃ N' : zBr, zev r i_X0_begin 0 [some (.ref (r.1 + 9)), some (.ref (r.1 + (65 + t.length)))] [] (zmk r c0 c1 c2 I J Q N A U V X S (t ++ zTd r t b s)) = some (none, zmk r c0 (65 + t.length) c2 I J Q N' A U V X S (t ++ zTd r t b s)) ∧ zCG C N'.1 N'.2.1 ∧ ∀ m, m < C.2.1 → N'.1 m = nI m ∧ N'.2.2.1 m = s.2.2.2.2.2.1 m ∧ N'.2.2.2 m = 0 := by
  have k2 := k.2.1
  have bx := nBx (r := r) (c0 := c0) (c2 := c2) (I := I) (J := J) (Q := Q) (A := A) (U := U) (V := V) (X := X) (S := S) hC
  obtain ⟨H', G', e1, h1, g1⟩ := b_first bx k (B := (N.1, N.2.1, va_cpy s.2.2.2.2.2.1 N.2.2.1 0 0 6, fun i => if i < 6 then 0 else N.2.2.2 i))
  have f1 : ∀ N : zBr, zgR r (zmk r c0 (65 + t.length) c2 I J Q N A U V X S (t ++ zTd r t b s)) (r.1 + (65 + t.length)) 1 4 = some (r.1 + (65 + t.length + 3)) := fun N => zgR_of (zmk_at (i := 0)) rfl
  have p1 : zcp r (zmk r c0 (65 + t.length) c2 I J Q N A U V X S (t ++ zTd r t b s)) (r.1 + (65 + t.length + 3)) 0 (r.1 + 12) 0 6 = some (zmk r c0 (65 + t.length) c2 I J Q (N.1, N.2.1, va_cpy s.2.2.2.2.2.1 N.2.2.1 0 0 6, N.2.2.2) A U V X S (t ++ zTd r t b s)) := by
    have : (zmk r c0 (65 + t.length) c2 I J Q N A U V X S (t ++ zTd r t b s))[65 + t.length + 3]? = some (.inl (6, s.2.2.2.2.2.1)) := zmk_at (i := 3)
    rw [nI_0', show (6 : Int32) = nI 6 from rfl, zcp_of this mc_12 (by decide) (by decide) (by decide) (by decide), ms_12]
  have p2 := z_fill r (n := 6) (a := r.1 + 13) (fun f => zmk r c0 (65 + t.length) c2 I J Q (N.1, N.2.1, va_cpy s.2.2.2.2.2.1 N.2.2.1 0 0 6, f) A U V X S (t ++ zTd r t b s)) (by decide) (fun f => mn_13) (fun f k y hk => mw_13 hk) N.2.2.2 0
  refine ⟨(H', G', va_cpy s.2.2.2.2.2.1 N.2.2.1 0 0 6, fun i => if i < 6 then 0 else N.2.2.2 i), ?_, g1, fun m hm => ⟨h1 m hm, cpy_in (by omega), if_pos (by omega)⟩⟩
  simp only [E_X0_begin_0, mp_9_0, Option.bind_some, f1, mg_9_3, p1, mg_9_4, p2, zcV_some, mo_9, if_true, e1]
theorem k_d80 {c' : Nat} (hC : zCt r t c' C) (a : Int32) (l2 : Nat) : zev r i_X5_deck 80 [some (.ref (r.1 + 0)), some (.int a), some (.ref l2), some (.ref (r.1 + c')), some (.int 0)] [] (zmk r c0 c1 c2 I J Q N A U V X S t) = some (some (.int (nI C.2.1)), (zmk r c0 c1 c2 (va_up (va_up (va_up I 3 (-1)) 4 (-1)) 5 (-1)) J Q N A U V X S t)) := by
  have := zloop (fun j (I : zA) => zev r i_X5_deck 80 [some (.ref (r.1 + 0)), some (.int a), some (.ref l2), some (.ref (r.1 + c')), some (.int (nI j))] [] (zmk r c0 c1 c2 I J Q N A U V X S t)) (fun I => some (some (.int (nI C.2.1)), zmk r c0 c1 c2 I J Q N A U V X S t)) (fun I j => va_up I (3 + j) (-1)) 3 (fun j I hj => by
    refine (E_X5_deck_80 ..).trans ?_
    simp only [mo_0, mg_0_0, mg_0_1, mg_0_2, mg_0_3, mg_0_4, mg_0_5, mg_0_6, mg_0_7, mg_0_8, mg_0_9, mg_0_10, mg_0_11, mn_21, Option.bind_some, nI_of0, if_pos (nI_lt hj (show 3 < 2 ^ 31 by decide)), mq_21 hj, mo_k hj, if_true, E_X2_discard_0, mps_k hj, zcV_some, nI_1]) (fun I => by
    refine (E_X5_deck_80 ..).trans ?_
    simp only [mo_0, mg_0_0, mg_0_1, mg_0_2, mg_0_3, mg_0_4, mg_0_5, mg_0_6, mg_0_7, mg_0_8, mg_0_9, mg_0_10, mg_0_11, mn_21, Option.bind_some, nI_of0, if_neg (show ¬ nI 3 < nI 3 by decide), (hC ..).2.2.1]) I
  exact this
theorem zKe_m {I' : zA} {X' Q' : Nat → zA} (hI : ∀ k, k < 3 → I' (3 + k) = -1) (hX : ∀ k, k < 3 → X' 0 (1099 * (1 + k)) = -1) : zKe C I' Q' X' := fun k hk => .inl ⟨hI k hk, hX k hk⟩
theorem m_dlay' {h m : Nat} (h7 : h ≤ 7) (h6 : m ≤ 6) (hu : U 0 = nI h) (hu1 : U 1 = nI m) (X : Nat → zA) : ∃ X' : Nat → zA, (∀ c0 c1 c2 I J Q N A V S t a, zev r i_X6_deck 55 [some (.ref (r.1 + 49)), some (.int a), some (.int 0), none] [] (zmk r c0 c1 c2 I J Q N A U V X S t) = some (some (.int (nI m)), (zmk r c0 c1 c2 I J Q N A U V (X') S t))) ∧ (∀ i, 5 ≤ i → X' i = X i) ∧ (∀ i, i < h → X' 1 i = X 10 i) ∧ (∀ i, i < m → X' 2 i = X 11 (4 * i) ∧ X' 3 i = X 11 (4 * i + 2) ∧ X' 4 i = X 11 (4 * i + 3) ∧ X' 0 (7 + i) = X 11 (4 * i + 1) ∧ X' 0 (1 + i) = nI i ∧ X' 0 (13 + i) = 0) ∧ X' 0 0 = 0 ∧ ∀ k, k < 3 → X' 0 (1099 * (1 + k)) = -1 := by
  obtain ⟨d1, d2⟩ := dw_of (X 11) h6 (X 0) (X 2) (X 3) (X 4)
  have up : ∀ (f : zA) i, i < 1099 → upd (upd (upd f 1099 (-1)) 2198 (-1)) 3297 (-1) i = f i := fun f i hi => by
    rw [upd_n (by omega), upd_n (by omega), upd_n (by omega)]
  refine ⟨_, fun c0 c1 c2 I J Q N A V S t a => m_dlay h7 h6 hu hu1 a, fun i hi => ?_, fun i hi => d1_of (X 10) hi (X 1), fun i hi => ?_, ?_, fun k hk => ?_⟩
  · unfold zDx
    rw [if_neg (by omega), if_neg (by omega), if_neg (by omega), if_neg (by omega), if_neg (by omega)]
  · obtain ⟨a1, a2, a3, a4, a5, a6⟩ := d1 i hi
    rw [dx0, dx2, dx3, dx4, up _ _ (by omega), up _ _ (by omega), up _ _ (by omega)]
    exact ⟨a1, a2, a3, a4, a5, a6⟩
  · rw [dx0, up _ _ (by omega)]
    exact d2
  · rw [dx0]
    match k, hk with
    | 0, _ => rw [show 1099 * (1 + 0) = 1099 from rfl, upd_n (by omega), upd_n (by omega), upd_s]
    | 1, _ => rw [show 1099 * (1 + 1) = 2198 from rfl, upd_n (by omega), upd_s]
    | 2, _ => rw [show 1099 * (1 + 2) = 3297 from rfl, upd_s]
    | k + 3, h => exact absurd h (by omega)
theorem lk_deck (E : zEk r) (a : Int32) {h : zH} (st : zSt r n h) : zBoth r n (n + 1) (zev r i_X5_deck 0 [some (.ref (r.1 + 0)), some (.int a), none, none, none] []) (zev r i_X6_deck 0 [some (.ref (r.1 + 49)), some (.int a), none, none] []) h := by
  obtain ⟨C, c, c2, I, J, Q, N, A, U, V, X, S, t, rfl, iv, t1, t2⟩ := st
  have st1 : ∀ {h2 : zH}, zSt r n h2 → zSt r (n + 1) h2 := fun ⟨C, c, c2, I, J, Q, N, A, U, V, X, S, t, e, iv, t1, t2⟩ => ⟨C, c, c2, I, J, Q, N, A, U, V, X, S, t, e, iv, by omega, by omega⟩
  rcases zhk_cases 4 (by decide) a with e | ⟨e, j, hj, rfl⟩
  · refine both (v := (-1)) (h1 := (zmk r c c c2 I J Q N A U V X S t)) (h2 := (zmk r c c c2 I J Q N A U V X S t)) ?_ ?_ (st1 (st_mk iv t1 t2))
    · simp only [E_X5_deck_0, mo_0, mg_0_0, mg_0_1, mg_0_2, mg_0_3, mg_0_4, mg_0_5, mg_0_6, mg_0_7, mg_0_8, mg_0_9, mg_0_10, mg_0_11, if_true, k_textAt, e, zcQ_null]
    · simp only [E_X6_deck_0, m_text, e, if_true, zcI_some]
  rcases iv.2.2.2.2.2.1 j hj with ⟨s1, s2⟩ | ⟨m, hm, s1, s2, s3⟩
  · refine both (v := (-3)) (h1 := (zmk r c c c2 (va_up I 1 (nI 1)) J (va_up Q 0 (upd (Q 0) 1 (Q 0 1 + 1))) N A U V X S t)) (h2 := (zmk r c c c2 (va_up I 1 (nI 1)) J (va_up Q 0 (upd (Q 0) 1 (Q 0 1 + 1))) N A (va_up U 3 (nI 1)) V (va_up X 9 (upd (X 9) 1 (X 9 1 + 1))) S t)) ?_ ?_ (st1 (st_mk (iv_found 1 iv (by decide) (by decide)) t1 t2))
    · simp only [E_X5_deck_0, mo_0, mg_0_0, mg_0_1, mg_0_2, mg_0_3, mg_0_4, mg_0_5, mg_0_6, mg_0_7, mg_0_8, mg_0_9, mg_0_10, mg_0_11, if_true, k_textAt, e, i01, if_false, zcQ_ref, nI_clamp (show j < 2 ^ 31 by omega), mo_t hj, wt_miss hj, s1, zcI_some, k_f1]
    · simp only [E_X6_deck_0, mo_49, mg_49_0, mg_49_1, mg_49_2, mg_49_3, mg_49_4, mg_49_5, mg_49_6, mg_49_7, mg_49_8, mg_49_9, mg_49_10, mg_49_11, mg_49_12, mg_49_13, mg_49_14, mg_49_15, mg_49_16, mg_49_17, mg_49_18, mg_49_19, mg_49_20, mg_49_21, mg_49_22, mg_49_23, mg_49_24, mg_49_25, m_text, e, i01, if_false, Option.bind_some, ma_57 hj, s2, show (-1 : Int32) < 0 from by decide, if_true, zcI_some, m_f1]
  have R := rx_d (r := r) (c0 := c) (c1 := c) (c2 := c2) (I := I) (J := J) (Q := Q) (N := N) (A := A) (U := U) (V := V) (X := X) (S := S) (t := t) (b := r.1 + 35 + 2 * j) (e := m) (T := Q (19 + j)) (fun t => mo_t hj) (fun t i => wt_has hj s1 i) (fun t i => wt_get hj s1 hm i) (fun t => by rw [mgs_t hj, s1])
  have er := rd_read R E hm
  obtain ⟨iR, iN⟩ := rAll_I (T := Q (19 + j)) hm
  have ei : ∀ (g : zH) (K : Int32 → zH → Option zRes), g = (zmk r c c c2 I J Q N A U V X S t) → zcV (zev r i_X1_init 0 [some (.ref (r.1 + g.length))] [] (g ++ [.inr (.inr (1, [.int 0, .int 0, .null, .null, .null, .null, .null]))] : zH)) (fun h3 =>
    zcV (zev r i_X3_init 0 [some (.ref (r.1 + h3.length)), some (.ref (r.1 + 35 + 2 * j)), some (.ref (r.1 + g.length))] [] (h3 ++ [.inr (.inr (3, [.null, .null, .int 0]))] : zH)) fun h4 =>
    if zob r h4 (r.1 + h3.length) 3 = true then
    (zcI (zev r i_X3_read 0 [some (.ref (r.1 + h3.length)), none, none] [] h4) K)
    else none) = K (rAll (Q (19 + j)) m).1 (zmk r c c c2 I J Q N A U V X S (t ++ zTd r t (r.1 + 35 + 2 * j) (rAll (Q (19 + j)) m).2)) := fun g K hg => by
    have gl : g.length = 65 + t.length := by rw [hg]; exact zmk_len
    rw [cr_init, zcV_some, rd_init, zcV_some, List.append_assoc]
    have eh : g ++ ([.inr (.inr (1, [.int 0, .int 0, .ref (r.1 + (g.length + 1)), .ref (r.1 + (g.length + 2)), .ref (r.1 + (g.length + 3)), .ref (r.1 + (g.length + 4)), .ref (r.1 + (g.length + 5))])), .inl (7, fun _ => 0), .inl (6, fun _ => 0), .inl (6, fun _ => 0), .inl (6, fun _ => 0), .inl (6, fun _ => 0)] ++ [.inr (.inr (3, [.ref (r.1 + 35 + 2 * j), .ref (r.1 + g.length), .int 0]))]) = zmk r c c c2 I J Q N A U V X S (t ++ zTd r t (r.1 + 35 + 2 * j) (0, 0, 0, rZ)) := by
      rw [zmk_app, ← hg, gl]
      rfl
    rw [eh, List.length_append, gl]
    exact (if_pos (R.1 (0, 0, 0, rZ))).trans ((congrArg (fun q => zcI q K) er).trans zcI_some)
  obtain ⟨Y, Z, e2, hY, hZ⟩ := m_faultOf (r := r) (U := U) (T := Q (19 + j)) hj (fun i hi => (s3 i hi).symm) hm s2
  have t1' : ∀ s, (t ++ zTd r t (r.1 + 35 + 2 * j) s).length ≤ 7 * (n + 1) := fun s => by
    rw [List.length_append]
    show t.length + 7 ≤ 7 * (n + 1)
    omega
  have t2' : ∀ s, zhs (t ++ zTd r t (r.1 + 35 + 2 * j) s) ≤ 60 * (n + 1) := fun s => by
    rw [zhs_app]
    show zhs t + 41 ≤ 60 * (n + 1)
    omega
  by_cases q : (rAll (Q (19 + j)) m).1 = -9
  · have hp := iN q
    obtain ⟨j1, j2, j3, j4, j5, j6⟩ := iR
    generalize (rAll (Q (19 + j)) m).2 = s at *
    have hU0 : va_up (va_up (zUr U j m s.1 s.2.1 s.2.2.1) 0 (nI s.2.1)) 1 (nI s.2.2.1) 0 = nI s.2.1 := rfl
    have hU1 : va_up (va_up (zUr U j m s.1 s.2.1 s.2.2.1) 0 (nI s.2.1)) 1 (nI s.2.2.1) 1 = nI s.2.2.1 := rfl
    obtain ⟨X', ed, x5, x1, x2, x0, xk⟩ := m_dlay' (r := r) j2 j3 hU0 hU1 (zXr X Y Z)
    have kC : zCk (s.2.1, s.2.2.1, X' 1, X' 2, X' 3, X' 4) := ⟨j2, j3, j4, fun i hi => by
      obtain ⟨p, h1, h2⟩ := j5 i hi
      exact ⟨p, h1, (x1 i hi).trans ((hY i hi).trans h2)⟩, fun i hi => by
      obtain ⟨p, h1, h2⟩ := (j6 i hi).1
      exact ⟨p, h1, (x2 i hi).1.trans ((hZ i hi).1.trans h2)⟩⟩
    have hC' : zCt r (t ++ zTd r t (r.1 + 35 + 2 * j) s) (65 + t.length) (s.2.1, s.2.2.1, X' 1, X' 2, X' 3, X' 4) := ct_d rfl rfl j2 j3 (fun i hi => ((x1 i hi).trans (hY i hi)).symm) (fun i hi => ((x2 i hi).1.trans (hZ i hi).1).symm) (fun i hi => ((x2 i hi).2.1.trans (hZ i hi).2.2.1).symm) (fun i hi => ((x2 i hi).2.2.1.trans (hZ i hi).2.2.2).symm)
    obtain ⟨N', eb, cg, bn⟩ := k_begin (c0 := 65 + t.length) (c1 := c) (c2 := c2) (I := I) (J := J) (Q := Q) (N := N) (A := A) (U := U) (V := V) (X := X) (S := S) kC hC'
    have lkN : zLk (s.2.1, s.2.2.1, X' 1, X' 2, X' 3, X' 4) N'.2.2.1 := fun i hi => by
      obtain ⟨p, h1, h2⟩ := (j6 i hi).2
      exact ⟨p, h1, (bn i hi).2.1.trans h2⟩
    have gw := g_write (r := r) (c0 := 65 + t.length) (c1 := 65 + t.length) (c2 := c2) (I := va_up I 2 0) (J := J) (Q := Q) (N := N') (A := A) (U := U) (V := V) (X := X) (S := S) (t := t ++ zTd r t (r.1 + 35 + 2 * j) s) (b := 0) (by decide)
    rw [show nI 0 = (0 : Int32) from rfl] at gw
    have e8 := k_d80 (r := r) (c0 := 65 + t.length) (c1 := 65 + t.length) (c2 := c2) (I := va_up I 2 0) (J := J) (Q := va_up Q 9 (zWr (Q 9) N' 0)) (N := N') (A := A) (U := U) (V := V) (X := X) (S := S) hC' (nI j) (r.1 + 35 + 2 * j)
    obtain ⟨-, -, mv, to, ro, te, no, lg, ke⟩ := iv
    have i6 : ∀ i, 6 ≤ i → va_up (va_up (va_up (va_up I 2 0) 3 (-1)) 4 (-1)) 5 (-1) i = I i := fun i hi => by
      rw [va_ne (by omega), va_ne (by omega), va_ne (by omega), va_ne (by omega)]
    have iv' : zIv r (s.2.1, s.2.2.1, X' 1, X' 2, X' 3, X' 4) (65 + t.length) (va_up (va_up (va_up (va_up I 2 0) 3 (-1)) 4 (-1)) 5 (-1)) J (va_up Q 9 (zWr (Q 9) N' 0)) N' (va_up (va_up (zUr U j m s.1 s.2.1 s.2.2.1) 0 (nI s.2.1)) 1 (nI s.2.2.1)) V X' (t ++ zTd r t (r.1 + 35 + 2 * j) s) := by
      refine ⟨kC, hC', ⟨rfl, rfl, rfl, rfl, rfl, rfl⟩, ?_, zRo_c ro (fun k _ => i6 _ (by omega)) (fun k _ => va_ne (by omega)) (x5 5 (by decide)) (x5 6 (by decide)), zTe_c te (fun k _ => i6 _ (by omega)) (fun k _ => va_ne (by omega)) (x5 7 (by decide)) (x5 8 (by decide)), ⟨cg, lkN, fun i hi => ?_⟩, ⟨0, rfl, ?_⟩, zKe_m (fun k hk => ?_) xk⟩
      · obtain ⟨o1, o2, o3, o4, o5⟩ := to
        exact ⟨o1, o2, o3, o4, fun f h1 h2 => by rw [va_ne (by decide), x5 9 (by decide)]; exact o5 f h1 h2⟩
      · obtain ⟨b1, b2, b3⟩ := bn i hi
        obtain ⟨-, -, -, y1, y2, y3⟩ := x2 i hi
        exact ⟨b1.trans y2.symm, b2.trans ((hZ i hi).2.1.symm.trans y1.symm), b3.trans y3.symm⟩
      · rw [va_same]
        refine ⟨by decide, x0, fun p i hp hi => ?_, fun p _ _ hp => absurd hp (Nat.not_lt_zero _), fun p hp => ?_⟩
        · have hi6 : i < 6 := Nat.lt_of_lt_of_le hi j3
          obtain ⟨b1, b2, b3⟩ := bn i hi
          obtain ⟨-, -, -, y1, y2, y3⟩ := x2 i hi
          match p, hp with
          | 0, _ =>
            have := zWr_h (Q 9) N' 0 hi6
            rw [show 18 * 0 + (6 * 0 + i) = 0 + i by omega, this, show 1 + (6 * 0 + i) = 1 + i by omega, y2, b1]
          | 1, _ =>
            have := zWr_l (Q 9) N' 0 hi6
            rw [show 18 * 0 + (6 * 1 + i) = 0 + (6 + i) by omega, this, show 1 + (6 * 1 + i) = 7 + i by omega, y1, b2]
            exact (hZ i hi).2.1.symm
          | 2, _ =>
            have := zWr_t (Q 9) N' 0 hi6
            rw [show 18 * 0 + (6 * 2 + i) = 0 + (12 + i) by omega, this, show 1 + (6 * 2 + i) = 13 + i by omega, y3, b3]
          | p + 3, h => exact absurd h (by omega)
        · have p0 : p = 0 := by omega
          subst p0
          have h6 : ∀ i, i < s.2.2.1 → i < 6 := fun i hi => Nat.lt_of_lt_of_le hi j3
          exact ⟨vi_c (fun i hi => (show zWr (Q 9) N' 0 (18 * 0 + i) = N'.1 i from by have := zWr_h (Q 9) N' 0 (h6 i hi); rw [show 18 * 0 + i = 0 + i by omega]; exact this)) (cg_vi kC cg), lk_c (fun i hi => (show zWr (Q 9) N' 0 (18 * 0 + (6 + i)) = N'.2.2.1 i from by have := zWr_l (Q 9) N' 0 (h6 i hi); rw [show 18 * 0 + (6 + i) = 0 + (6 + i) by omega]; exact this)) lkN⟩
      · match k, hk with
        | 0, _ => rfl
        | 1, _ => rfl
        | 2, _ => rfl
        | k + 3, h => exact absurd h (by omega)
    refine ⟨nI s.2.2.1, zmk r (65 + t.length) (65 + t.length) c2 (va_up (va_up (va_up (va_up I 2 0) 3 (-1)) 4 (-1)) 5 (-1)) J (va_up Q 9 (zWr (Q 9) N' 0)) N' A U V X S (t ++ zTd r t (r.1 + 35 + 2 * j) s), _, ?_, mo_49, ?_, st_mk (c2 := c2) (A := A) (S := S) iv' (t1' s) (t2' s)⟩
    · simp only [E_X5_deck_0, mo_0, mg_0_0, mg_0_1, mg_0_2, mg_0_3, mg_0_4, mg_0_5, mg_0_6, mg_0_7, mg_0_8, mg_0_9, mg_0_10, mg_0_11, if_true, k_textAt, e, i01, if_false, zcQ_ref, nI_clamp (show j < 2 ^ 31 by omega), mo_t hj, wt_miss hj, s1, nI_m1 (show m < 2 ^ 31 by omega), zcI_some]
      refine (ei _ _ rfl).trans ?_
      rw [if_pos q, zmk_len]
      simp only [mp_0_2, Option.bind_some, mo_0, mg_0_0, mg_0_1, mg_0_2, mg_0_3, mg_0_4, mg_0_5, mg_0_6, mg_0_7, mg_0_8, mg_0_9, mg_0_10, mg_0_11, mo_9, if_true, eb, zcV_some, mo_19, E_X2_begin_0, mp_19_1, mg_19_0, gw]
      exact e8
    · simp only [E_X6_deck_0, mo_49, mg_49_0, mg_49_1, mg_49_2, mg_49_3, mg_49_4, mg_49_5, mg_49_6, mg_49_7, mg_49_8, mg_49_9, mg_49_10, mg_49_11, mg_49_12, mg_49_13, mg_49_14, mg_49_15, mg_49_16, mg_49_17, mg_49_18, mg_49_19, mg_49_20, mg_49_21, mg_49_22, mg_49_23, mg_49_24, mg_49_25, m_text, e, i01, if_false, Option.bind_some, ma_57 hj, s2, nI_pos (show m < 2 ^ 31 by omega), zcI_some, if_true, e2, q, ur7, mp_49_1, mp_49_3, show va_up (zUr U j m s.1 s.2.1 s.2.2.1) 0 (nI s.2.1) 8 = nI s.2.2.1 from rfl]
      exact ed ..
  · refine both (v := (-4)) (h1 := zmk r c c c2 I J Q N A U V X S (t ++ zTd r t (r.1 + 35 + 2 * j) (rAll (Q (19 + j)) m).2)) (h2 := zmk r c c c2 I J Q N A (zUr U j m (rAll (Q (19 + j)) m).2.1 (rAll (Q (19 + j)) m).2.2.1 (rAll (Q (19 + j)) m).2.2.2.1) V (zXr X Y Z) S (t ++ zTd r t (r.1 + 35 + 2 * j) (rAll (Q (19 + j)) m).2)) ?_ ?_ (st_mk (iv_read iv) (t1' _) (t2' _))
    · simp only [E_X5_deck_0, mo_0, mg_0_0, mg_0_1, mg_0_2, mg_0_3, mg_0_4, mg_0_5, mg_0_6, mg_0_7, mg_0_8, mg_0_9, mg_0_10, mg_0_11, if_true, k_textAt, e, i01, if_false, zcQ_ref, nI_clamp (show j < 2 ^ 31 by omega), mo_t hj, wt_miss hj, s1, nI_m1 (show m < 2 ^ 31 by omega), zcI_some]
      refine (ei _ _ rfl).trans ?_
      rw [if_neg q]
    · simp only [E_X6_deck_0, mo_49, mg_49_0, mg_49_1, mg_49_2, mg_49_3, mg_49_4, mg_49_5, mg_49_6, mg_49_7, mg_49_8, mg_49_9, mg_49_10, mg_49_11, mg_49_12, mg_49_13, mg_49_14, mg_49_15, mg_49_16, mg_49_17, mg_49_18, mg_49_19, mg_49_20, mg_49_21, mg_49_22, mg_49_23, mg_49_24, mg_49_25, m_text, e, i01, if_false, Option.bind_some, ma_57 hj, s2, nI_pos (show m < 2 ^ 31 by omega), zcI_some, if_true, e2, q]
end DECK
