/-! UNDO, KEEP, ON: both alike -/
section BACK
variable {r : zE} {c0 c1 c2 : Nat} {I : Nat → Int32} {J : Nat → Int64} {Q : Nat → Nat → Int32} {N A : zBr} {U : Nat → Int32} {V : Nat → Int64} {X : Nat → Nat → Int32} {S : zSs} {t : zH} {C : zCs} {c n d : Nat}
theorem past_c {P P' R R' : zA} (k : zCk C) (hP : ∀ i, i < 1098 → P' i = P i) (hR : ∀ i, i < 1099 → R' i = R i) (h : zPast C d P R) : zPast C d P' R' := by
  obtain ⟨p1, p2, p3, p4, p5⟩ := h
  have k2 := k.2.1
  refine ⟨p1, (hR 0 (by omega)).trans p2, fun q m hq hm => ?_, fun j q m hj hq hm => ?_, fun j hj => ⟨vi_c (fun m hm => hP _ (by omega)) (p5 j hj).1, lk_c (fun m hm => hP _ (by omega)) (p5 j hj).2⟩⟩
  · rw [hP _ (by omega), hR _ (by omega)]; exact p3 q m hq hm
  · rw [hP _ (by omega), hR _ (by omega)]; exact p4 j q m hj hq hm
theorem iv_set (iv : zIv r C c I J Q N U V X t) (P f : zA) (hp : zPast C d P f) (N' : zBr) (g : zCG C N'.1 N'.2.1) (hN : ∀ m, m < C.2.1 → N'.1 m = P (18 * d + m) ∧ N'.2.2.1 m = P (18 * d + (6 + m)) ∧ N'.2.2.2 m = P (18 * d + (12 + m))) (fk : ∀ i, 1099 ≤ i → f i = X 0 i) : zIv r C c (va_up I 2 (nI d)) J (va_up Q 9 P) N' U V (va_up X 0 f) t := by
  obtain ⟨a1, a2, a3, a4, a5, a6, a7, a8, a9⟩ := iv
  refine ⟨a1, a2, zMv_c a3 rfl rfl rfl rfl rfl rfl, zTo_c a4 (va_ne (by decide)) (va_ne (by decide)) rfl rfl (va_ne (by decide)) rfl rfl rfl rfl (va_ne (by decide)), zRo_c a5 (fun j _ => va_ne (by omega)) (fun j _ => va_ne (by omega)) rfl rfl, zTe_c a6 (fun j _ => va_ne (by omega)) (fun j _ => va_ne (by omega)) rfl rfl, ⟨g, lk_c (fun m hm => (hN m hm).2.1) (hp.2.2.2.2 d (Nat.le_refl d)).2, fun m hm => ?_⟩, ⟨d, va_same, by rw [va_same, va_same]; exact hp⟩, zKe_c a9 (fun j _ => va_ne (by omega)) (fun j _ => va_ne (by omega)) (fun i hi => by rw [va_same]; exact fk i hi)⟩
  obtain ⟨b1, b2, b3⟩ := hN m hm
  rw [va_same, b1, b2, b3]
  refine ⟨?_, ?_, ?_⟩
  · have := hp.2.2.1 0 m (by decide) hm
    rwa [show 6 * 0 + m = m by omega] at this
  · have := hp.2.2.1 1 m (by decide) hm
    rwa [show 6 * 1 + m = 6 + m by omega, show 1 + (6 + m) = 7 + m by omega] at this
  · have := hp.2.2.1 2 m (by decide) hm
    rwa [show 6 * 2 + m = 12 + m by omega, show 1 + (12 + m) = 13 + m by omega] at this
theorem g_read (k : zCk C) (hC : zCt r t c C) {b : Nat} (hb : b + 18 ≤ 1098) (hv : zVI C (fun m => Q 9 (b + m))) : ∃ N' : zBr, zev r i_X0_readFrom 0 [some (.ref (r.1 + 9)), some (.ref (r.1 + 20)), some (.int (nI b)), none] [] (zmk r c0 (c) c2 I J Q N A U V X S t) = some (none, (zmk r c0 (c) c2 I J Q (N') A U V X S t)) ∧ zCG C N'.1 N'.2.1 ∧ ∀ m, m < C.2.1 → N'.1 m = Q 9 (b + m) ∧ N'.2.2.1 m = Q 9 (b + (6 + m)) ∧ N'.2.2.2 m = Q 9 (b + (12 + m)) := by
  have k1 := k.1
  have k2 := k.2.1
  have bx := nBx (r := r) (c0 := c0) (c2 := c2) (I := I) (J := J) (Q := Q) (A := A) (U := U) (V := V) (X := X) (S := S) hC
  obtain ⟨H0, G0, e0, d0, cg0⟩ := b_down bx k (B := N)
  have q2 : ¬ nI 1098 - 18 < nI b := by
    rw [show (18 : Int32) = nI 18 from rfl, pk_sub (by decide)]
    exact nI_nlt (by omega) (by decide)
  have e6 : (6 : Int32) = nI 6 := rfl
  have e1 : nI b + 6 = nI (b + 6) := nI_add b 6
  have e2 : nI b + 12 = nI (b + 12) := nI_add b 12
  simp only [E_X0_readFrom_0, if_neg (nI_pos (show b < 2 ^ 31 by omega)), mn_20, Option.bind_some, nI_of0, if_neg q2, mo_9, if_true, e0, zcV_some]
  refine zloopS (fun j (s : zA × zA) => (∀ m, m < j → s.1 m = Q 9 (b + m)) ∧ (∀ m, j ≤ m → m < C.2.1 → s.1 m = -9) ∧ zCG C s.1 s.2) (fun e => ∃ N' : zBr, e = some (none, (zmk r c0 (c) c2 I J Q (N') A U V X S t)) ∧ zCG C N'.1 N'.2.1 ∧ ∀ m, m < C.2.1 → N'.1 m = Q 9 (b + m) ∧ N'.2.2.1 m = Q 9 (b + (6 + m)) ∧ N'.2.2.2 m = Q 9 (b + (12 + m))) (fun j (s : zA × zA) => zev r i_X0_readFrom 20 [some (.ref (r.1 + 9)), some (.ref (r.1 + 20)), some (.int (nI b)), some (.int (nI j))] [] (zmk r c0 (c) c2 I J Q ((s.1, s.2, N.2.2.1, N.2.2.2)) A U V X S t)) C.2.1 (fun j s hj p => .inr ?_) (fun s p => ?_) (H0, G0) ⟨fun m hm => absurd hm (Nat.not_lt_zero m), fun m _ hm => d0 m hm, cg0⟩
  · have fr : zFree C s.2 (Q 9 (b + j)) := by
      rcases hv.1 j hj with z | ⟨i, hi, z⟩
      · exact .inl z
      · refine .inr ⟨i, hi, z, cg_free k p.2.2 hi fun m hm => ?_⟩
        by_cases w : m < j
        · rw [p.1 m w]
          exact fun y => absurd (hv.2 m j hm hj (y.trans z.symm) (by dsimp only; rw [y]; exact nI_n9 (by omega))) (by omega)
        · rw [p.2.1 m (by omega) hm]
          exact fun y => nI_n9 (by omega) y.symm
    obtain ⟨G', e3, c3⟩ := b_move bx k (B := (s.1, s.2, N.2.2.1, N.2.2.2)) p.2.2 hj (h := Q 9 (b + j)) (.inl fr)
    refine ⟨(upd s.1 j (Q 9 (b + j)), G'), ?_, fun m hm => ?_, fun m h1 h2 => ?_, c3⟩
    · refine (E_X0_readFrom_20 ..).trans ?_
      simp only [mg_9_0, (hC ..).2.2.1, Option.bind_some, if_pos (nI_lt6 k hj), nI_add, ma_20 (show b + j < 1098 by omega), mo_9, if_true, e3, zcV_some, nI_1]
    · by_cases w : m = j
      · subst w; exact upd_s
      · exact (upd_n w).trans (p.1 m (by omega))
    · exact (upd_n (by omega)).trans (p.2.1 m (by omega) h2)
  · refine ⟨(s.1, s.2, va_cpy (Q 9) N.2.2.1 (b + 6) 0 6, va_cpy (Q 9) N.2.2.2 (b + 12) 0 6), ?_, p.2.2, fun m hm => ⟨p.1 m hm, ?_, ?_⟩⟩
    · refine (E_X0_readFrom_20 ..).trans ?_
      have p1 : ∀ H G, zcp r (zmk r c0 (c) c2 I J Q ((H, G, N.2.2.1, N.2.2.2)) A U V X S t) (r.1 + 20) (nI (b + 6)) (r.1 + 12) 0 6 = some (zmk r c0 (c) c2 I J Q ((H, G, va_cpy (Q 9) N.2.2.1 (b + 6) 0 6, N.2.2.2)) A U V X S t) := fun H G => by
        rw [nI_0', e6, zcp_of mc_20 mc_12 (by omega) (by decide) (by decide) (by decide), ms_12]
      have p2 : ∀ H G L, zcp r (zmk r c0 (c) c2 I J Q ((H, G, L, N.2.2.2)) A U V X S t) (r.1 + 20) (nI (b + 12)) (r.1 + 13) 0 6 = some (zmk r c0 (c) c2 I J Q ((H, G, L, va_cpy (Q 9) N.2.2.2 (b + 12) 0 6)) A U V X S t) := fun H G L => by
        rw [nI_0', e6, zcp_of mc_20 mc_13 (by omega) (by decide) (by decide) (by decide), ms_13]
      simp only [mg_9_0, mg_9_3, mg_9_4, (hC ..).2.2.1, Option.bind_some, if_neg (nI_nlt6 k), e1, e2, p1, p2]
    · show va_cpy (Q 9) N.2.2.1 (b + 6) 0 6 m = _
      unfold va_cpy
      rw [if_pos (by omega), show b + 6 + (m - 0) = b + (6 + m) by omega]
    · show va_cpy (Q 9) N.2.2.2 (b + 12) 0 6 m = _
      unfold va_cpy
      rw [if_pos (by omega), show b + 12 + (m - 0) = b + (12 + m) by omega]
theorem g_back (k : zCk C) (hC : zCt r t c C) {e : Nat} (he : e ≤ d) (h6 : d ≤ 60) (hd : I 2 = nI d) (hv : zVI C (fun m => Q 9 (18 * e + m))) : ∃ N' : zBr, zev r i_X2_goBackTo 0 [some (.ref (r.1 + 19)), some (.int (nI e)), some (.ref (r.1 + 9))] [] (zmk r c0 (c) c2 I J Q N A U V X S t) = some (none, (zmk r c0 (c) c2 (va_up I 2 (nI e)) J Q (N') A U V X S t)) ∧ zCG C N'.1 N'.2.1 ∧ ∀ m, m < C.2.1 → N'.1 m = Q 9 (18 * e + m) ∧ N'.2.2.1 m = Q 9 (18 * e + (6 + m)) ∧ N'.2.2.2 m = Q 9 (18 * e + (12 + m)) := by
  obtain ⟨N', e1, e2⟩ := g_read (c0 := c0) (c2 := c2) (I := va_up I 2 (nI e)) (J := J) (N := N) (A := A) (U := U) (V := V) (X := X) (S := S) k hC (b := 18 * e) (by omega) hv
  refine ⟨N', ?_, e2⟩
  have e3 : nI e * 18 = nI (18 * e) := by rw [show (18 : Int32) = nI 18 from rfl, pk_mul, Nat.mul_comm]
  simp only [E_X2_goBackTo_0, if_neg (nI_pos (show e < 2 ^ 31 by omega)), mg_19_1, hd, Option.bind_some, if_neg (nI_nlt (b := e) (a := d) he (by omega)), mp_19_1, mg_19_0, mo_9, if_true, e3, e1, zcV_some]
/-- what the reference's row is when it has gone back -/
def zBk (f : zA) (d e : Nat) : zA := fun i => if i = 0 then nI e else if e < d ∧ i < 19 then f (19 + 18 * e + (i - 1)) else f i
theorem m_undo29 {e : Nat} (he : e ≤ d) (h6 : d ≤ 60) : zev r i_X6_undo 29 [some (.ref (r.1 + 49)), some (.int (nI e)), some (.int (nI (d - e))), some (.int 0)] [] (zmk r c0 c1 c2 I J Q N A U V X S t) = some (some (.int (nI (d - e))), (zmk r c0 c1 c2 I J Q N A U V (va_up X 0 (zBk (X 0) d e)) S t)) := by
  by_cases z : e < d
  · have h0 : (0 : Int32) < nI (d - e) := nI_lt (a := 0) (by omega) (by omega)
    have := zloopP (fun q (f : zA) => f = fun i => if 1 ≤ i ∧ i < 1 + q then X 0 (19 + 18 * e + (i - 1)) else X 0 i) (fun q (f : zA) => zev r i_X6_undo 29 [some (.ref (r.1 + 49)), some (.int (nI e)), some (.int (nI (d - e))), some (.int (nI q))] [] (zmk r c0 c1 c2 I J Q N A U V (va_up X 0 f) S t)) (fun f => some (some (.int (nI (d - e))), (zmk r c0 c1 c2 I J Q N A U V (va_up X 0 (upd f 0 (nI e))) S t))) (fun f q => upd f (1 + q) (f (19 + 18 * e + q))) 18 (fun q f hq p => by
      have e1 : (19 : Int32) + 18 * nI e + nI q = nI (19 + 18 * e + q) := by rw [show (18 : Int32) = nI 18 from rfl, pk_mul, show (19 : Int32) = nI 19 from rfl, nI_add, nI_add]
      have e2 : (1 : Int32) + nI q = nI (1 + q) := nI_add 1 q
      refine ⟨(E_X6_undo_29 ..).trans ?_, ?_⟩
      · simp only [if_pos (show nI q < 18 from nI_lt (b := 18) hq (by decide)), h0, if_true, mo_49, mg_49_0, mg_49_1, mg_49_2, mg_49_3, mg_49_4, mg_49_5, mg_49_6, mg_49_7, mg_49_8, mg_49_9, mg_49_10, mg_49_11, mg_49_12, mg_49_13, mg_49_14, mg_49_15, mg_49_16, mg_49_17, mg_49_18, mg_49_19, mg_49_20, mg_49_21, mg_49_22, mg_49_23, mg_49_24, mg_49_25, Option.bind_some, e1, e2, ma_50 (show 19 + 18 * e + q < 4396 by omega), mw_50 (show 1 + q < 4396 by omega), va_same, bx_uu, nI_1]
      · subst p
        funext i
        show upd _ _ _ i = _
        unfold upd
        dsimp only
        by_cases w : i = 1 + q
        · subst w
          rw [if_pos rfl, if_neg (by omega), if_pos (by omega), show 1 + q - 1 = q by omega]
        · rw [if_neg w]
          by_cases w2 : 1 ≤ i ∧ i < 1 + q
          · rw [if_pos w2, if_pos (by omega)]
          · rw [if_neg w2, if_neg (by omega)]) (fun f p => by
      refine (E_X6_undo_29 ..).trans ?_
      simp only [if_neg (show ¬ nI 18 < 18 by decide), mo_49, mg_49_0, mg_49_1, mg_49_2, mg_49_3, mg_49_4, mg_49_5, mg_49_6, mg_49_7, mg_49_8, mg_49_9, mg_49_10, mg_49_11, mg_49_12, mg_49_13, mg_49_14, mg_49_15, mg_49_16, mg_49_17, mg_49_18, mg_49_19, mg_49_20, mg_49_21, mg_49_22, mg_49_23, mg_49_24, mg_49_25, Option.bind_some]
      rw [nI_0', mw_50 (show 0 < 4396 by decide), va_same, bx_uu]
      rfl) (X 0) (by
      funext i
      rw [if_neg (by omega)])
    obtain ⟨h1, h2⟩ := this
    rw [va_self] at h1
    refine h1.trans ?_
    rw [h2]
    have : (upd (fun i => if 1 ≤ i ∧ i < 1 + 18 then X 0 (19 + 18 * e + (i - 1)) else X 0 i) 0 (nI e)) = zBk (X 0) d e := by
      funext i
      unfold upd zBk
      dsimp only
      by_cases w : i = 0
      · rw [if_pos w, if_pos w]
      · rw [if_neg w, if_neg w]
        by_cases w2 : i < 19
        · rw [if_pos (by omega), if_pos ⟨z, w2⟩]
        · rw [if_neg (by omega), if_neg (by omega)]
    rw [this]
  · have e0 : e = d := by omega
    subst e0
    rw [Nat.sub_self]
    refine (E_X6_undo_29 ..).trans ?_
    simp only [show (0 : Int32) < 18 by decide, if_true, show ¬ (0 : Int32) < nI 0 by decide, if_false, mo_49, mg_49_0, mg_49_1, mg_49_2, mg_49_3, mg_49_4, mg_49_5, mg_49_6, mg_49_7, mg_49_8, mg_49_9, mg_49_10, mg_49_11, mg_49_12, mg_49_13, mg_49_14, mg_49_15, mg_49_16, mg_49_17, mg_49_18, mg_49_19, mg_49_20, mg_49_21, mg_49_22, mg_49_23, mg_49_24, mg_49_25, Option.bind_some]
    rw [nI_0', mw_50 (show 0 < 4396 by decide)]
    have : upd (X 0) 0 (nI e) = zBk (X 0) e e := by
      funext i
      unfold upd zBk
      by_cases w : i = 0
      · rw [if_pos w, if_pos w]
      · rw [if_neg w, if_neg w, if_neg (by omega)]
    rw [this]
    rfl
theorem lk_undo (a : Int32) {h : zH} (st : zSt r n h) : zBoth r n n (zev r i_X5_undo 0 [some (.ref (r.1 + 0)), some (.int a), none] []) (zev r i_X6_undo 0 [some (.ref (r.1 + 49)), some (.int a), none, none] []) h := by
  obtain ⟨C, c, c2, I, J, Q, N, A, U, V, X, S, t, rfl, iv, t1, t2⟩ := st
  obtain ⟨k, hC, mv, _, _, _, no, ⟨d, hd, hp⟩, -⟩ := id iv
  have k2 := k.2.1
  have d6 := hp.1
  have d0 : X 0 0 = nI d := hp.2.1
  have ms0 : ∀ {c0 c1 : Nat} {I J Q N A S t}, zaI r (zmk r c0 c1 c2 I J Q N A U V X S t) (r.1 + 50) 0 = some (nI d) := fun {_ _ _ _ _ _ _ _ _} => (ma_50 (j := 0) (by decide)).trans (by rw [d0])
  by_cases a1 : a < 0
  · refine both (v := (-1)) (h1 := (zmk r c c c2 I J Q N A U V X S t)) (h2 := (zmk r c c c2 I J Q N A U V X S t)) ?_ ?_ (st_mk iv t1 t2)
    · simp only [E_X5_undo_0, a1, if_true]
    · simp only [E_X6_undo_0, mo_49, mg_49_0, mg_49_1, mg_49_2, mg_49_3, mg_49_4, mg_49_5, mg_49_6, mg_49_7, mg_49_8, mg_49_9, mg_49_10, mg_49_11, mg_49_12, mg_49_13, mg_49_14, mg_49_15, mg_49_16, mg_49_17, mg_49_18, mg_49_19, mg_49_20, mg_49_21, mg_49_22, mg_49_23, mg_49_24, mg_49_25, ms0, Option.bind_some, m_in r _ a 0 _ (show (0 : Int64) = (0 : Int32).toInt64 from rfl) rfl, zbw, a1, if_true, zcI_some]
  obtain ⟨e, he, rfl⟩ := nI_of a1
  by_cases z : d < e
  · have z2 : nI d < nI e := nI_lt z he
    refine both (v := (-1)) (h1 := (zmk r c c c2 I J Q N A U V X S t)) (h2 := (zmk r c c c2 I J Q N A U V X S t)) ?_ ?_ (st_mk iv t1 t2)
    · simp only [E_X5_undo_0, a1, if_false, mo_0, mg_0_0, mg_0_1, mg_0_2, mg_0_3, mg_0_4, mg_0_5, mg_0_6, mg_0_7, mg_0_8, mg_0_9, mg_0_10, mg_0_11, mg_19_1, hd, Option.bind_some, z2, if_true]
    · simp only [E_X6_undo_0, mo_49, mg_49_0, mg_49_1, mg_49_2, mg_49_3, mg_49_4, mg_49_5, mg_49_6, mg_49_7, mg_49_8, mg_49_9, mg_49_10, mg_49_11, mg_49_12, mg_49_13, mg_49_14, mg_49_15, mg_49_16, mg_49_17, mg_49_18, mg_49_19, mg_49_20, mg_49_21, mg_49_22, mg_49_23, mg_49_24, mg_49_25, ms0, Option.bind_some, m_in r _ (nI e) 0 _ (show (0 : Int64) = (0 : Int32).toInt64 from rfl) rfl, zbw, a1, z2, if_true, if_false, zcI_some]
  have z2 : ¬ nI d < nI e := nI_nlt (by omega) (by omega)
  obtain ⟨N', e1, e2, e3⟩ := g_back (c0 := c) (c2 := c2) (J := J) (N := N) (A := A) (U := U) (V := V) (X := X) (S := S) k hC (e := e) (by omega) d6 hd (hp.2.2.2.2 e (by omega)).1
  have hp2 : zPast C e (Q 9) (zBk (X 0) d e) := by
    obtain ⟨p1, p2, p3, p4, p5⟩ := hp
    refine ⟨by omega, if_pos rfl, fun q m hq hm => ?_, fun j q m hj hq hm => ?_, fun j hj => p5 j (by omega)⟩
    · unfold zBk
      rw [if_neg (by omega)]
      by_cases w : e < d
      · rw [if_pos (by omega), show 19 + 18 * e + (1 + (6 * q + m) - 1) = 19 + 18 * e + (6 * q + m) by omega]
        exact p4 e q m w hq hm
      · rw [if_neg (by omega)]
        have : e = d := by omega
        subst this
        exact p3 q m hq hm
    · unfold zBk
      rw [if_neg (by omega), if_neg (by omega)]
      exact p4 j q m (by omega) hq hm
  have iv2 := iv_set iv (Q 9) (zBk (X 0) d e) hp2 N' e2 e3 (fun i hi => by
    unfold zBk
    rw [if_neg (by omega), if_neg (by omega)])
  rw [va_self] at iv2
  refine both (v := (nI (d - e))) (h1 := (zmk r c c c2 (va_up I 2 (nI e)) J Q (N') A U V X S t)) (h2 := (zmk r c c c2 (va_up I 2 (nI e)) J Q (N') A U V (va_up X 0 (zBk (X 0) d e)) S t)) ?_ ?_ (st_mk iv2 t1 t2)
  · simp only [E_X5_undo_0, a1, if_false, mo_0, mg_0_0, mg_0_1, mg_0_2, mg_0_3, mg_0_4, mg_0_5, mg_0_6, mg_0_7, mg_0_8, mg_0_9, mg_0_10, mg_0_11, mo_19, mg_19_1, hd, Option.bind_some, z2, if_true, e1, zcV_some, pk_sub (show e ≤ d by omega)]
  · simp only [E_X6_undo_0, mo_49, mg_49_0, mg_49_1, mg_49_2, mg_49_3, mg_49_4, mg_49_5, mg_49_6, mg_49_7, mg_49_8, mg_49_9, mg_49_10, mg_49_11, mg_49_12, mg_49_13, mg_49_14, mg_49_15, mg_49_16, mg_49_17, mg_49_18, mg_49_19, mg_49_20, mg_49_21, mg_49_22, mg_49_23, mg_49_24, mg_49_25, ms0, Option.bind_some, m_in r _ (nI e) 0 _ (show (0 : Int64) = (0 : Int32).toInt64 from rfl) rfl, zbw, a1, z2, i01, if_false, zcI_some, pk_sub (show e ≤ d by omega), m_undo29 (show e ≤ d by omega) d6]
theorem g_copy {k : Nat} (hk : k < 3) : zev r i_X2_copyFrom 0 [some (.ref (r.1 + 43 + 2 * k)), some (.ref (r.1 + 19))] [] (zmk r c0 c1 c2 I J Q N A U V X S t) = some (none, (zmk r c0 c1 c2 (va_up I (3 + k) (I 2)) J (va_up Q (10 + k) (va_cpy (Q 9) (Q (10 + k)) 0 0 1098)) N A U V X S t)) := by
  have p : ∀ I, zcp r (zmk r c0 c1 c2 I J Q N A U V X S t) (r.1 + 20) 0 (r.1 + (44 + 2 * k)) 0 (nI 1098) = some (zmk r c0 c1 c2 I J (va_up Q (10 + k) (va_cpy (Q 9) (Q (10 + k)) 0 0 1098)) N A U V X S t) := fun I => by
    rw [nI_0', zcp_of mc_20 (mcv_k hk) (by decide) (by decide) (by decide) (by decide), msv_k hk]
  simp only [E_X2_copyFrom_0, mg_19_1, mg_19_0, Option.bind_some, mps_k hk, mgv_k hk, mnv_k hk, nI_of0, p]
theorem g_copy2 {k : Nat} (hk : k < 3) : zev r i_X2_copyFrom 0 [some (.ref (r.1 + 19)), some (.ref (r.1 + 43 + 2 * k))] [] (zmk r c0 c1 c2 I J Q N A U V X S t) = some (none, (zmk r c0 c1 c2 (va_up I 2 (I (3 + k))) J (va_up Q 9 (va_cpy (Q (10 + k)) (Q 9) 0 0 1098)) N A U V X S t)) := by
  have p : ∀ I, zcp r (zmk r c0 c1 c2 I J Q N A U V X S t) (r.1 + (44 + 2 * k)) 0 (r.1 + 20) 0 (nI 1098) = some (zmk r c0 c1 c2 I J (va_up Q 9 (va_cpy (Q (10 + k)) (Q 9) 0 0 1098)) N A U V X S t) := fun I => by
    rw [nI_0', zcp_of (mcv_k hk) mc_20 (by decide) (by decide) (by decide) (by decide), ms_20]
  simp only [E_X2_copyFrom_0, mgs_k hk, mg_19_0, Option.bind_some, mp_19_1, mgv_k hk, mn_20, nI_of0, p]
theorem m_copyd {a b : Nat} (ha : a + 1099 ≤ 4396) (hb : b + 1099 ≤ 4396) (hd : a + 1099 ≤ b ∨ b + 1099 ≤ a) : zev r i_X6_copyDeck 0 [some (.ref (r.1 + 49)), some (.int (nI a)), some (.int (nI b)), none] [] (zmk r c0 c1 c2 I J Q N A U V X S t) = some (none, (zmk r c0 c1 c2 I J Q N A U V (va_up X 0 (va_cpy (X 0) (X 0) a b 1099)) S t)) := by
  rw [E_X6_copyDeck_0]
  have := zloopP (fun q (f : zA) => f = va_cpy (X 0) (X 0) a b q) (fun q (f : zA) => zev r i_X6_copyDeck 2 [some (.ref (r.1 + 49)), some (.int (nI a)), some (.int (nI b)), some (.int (nI q))] [] (zmk r c0 c1 c2 I J Q N A U V (va_up X 0 f) S t)) (fun f => some (none, (zmk r c0 c1 c2 I J Q N A U V (va_up X 0 f) S t))) (fun f q => upd f (b + q) (f (a + q))) 1099 (fun q f hq p => by
    refine ⟨(E_X6_copyDeck_2 ..).trans ?_, ?_⟩
    · simp only [if_pos (show nI q < 1099 from nI_lt (b := 1099) hq (by decide)), mo_49, mg_49_0, mg_49_1, mg_49_2, mg_49_3, mg_49_4, mg_49_5, mg_49_6, mg_49_7, mg_49_8, mg_49_9, mg_49_10, mg_49_11, mg_49_12, mg_49_13, mg_49_14, mg_49_15, mg_49_16, mg_49_17, mg_49_18, mg_49_19, mg_49_20, mg_49_21, mg_49_22, mg_49_23, mg_49_24, mg_49_25, Option.bind_some, nI_add, ma_50 (show a + q < 4396 by omega), mw_50 (show b + q < 4396 by omega), va_same, bx_uu, nI_1]
    · subst p
      funext i
      show upd _ _ _ i = _
      unfold upd va_cpy
      by_cases w : i = b + q
      · subst w
        rw [if_pos rfl, if_neg (by omega), if_pos (by omega), show b + q - b = q by omega]
      · rw [if_neg w]
        by_cases w2 : b ≤ i ∧ i < b + q
        · rw [if_pos w2, if_pos (by omega)]
        · rw [if_neg w2, if_neg (by omega)]) (fun f p => by
    refine (E_X6_copyDeck_2 ..).trans ?_
    simp only [if_neg (show ¬ nI 1099 < 1099 by decide)]) (X 0) (by
    funext i
    unfold va_cpy
    rw [if_neg (by omega)])
  obtain ⟨h1, h2⟩ := this
  rw [va_self] at h1
  refine h1.trans ?_
  rw [h2]
theorem lk_keep (a : Int32) {h : zH} (st : zSt r n h) : zBoth r n n (zev r i_X5_keep 0 [some (.ref (r.1 + 0)), some (.int a)] []) (zev r i_X6_keep 0 [some (.ref (r.1 + 49)), some (.int a)] []) h := by
  obtain ⟨C, c, c2, I, J, Q, N, A, U, V, X, S, t, rfl, iv, t1, t2⟩ := st
  obtain ⟨k, hC, mv, a4, a5, a6, no, ⟨d, hd, hp⟩, ke⟩ := id iv
  have k2 := k.2.1
  have d6 := hp.1
  have d0 : X 0 0 = nI d := hp.2.1
  have bw : zbw 0 2 a = zhk 3 a := by rw [← zbw_hk (by decide) a]; rfl
  rcases zhk_cases 3 (by decide) a with f | ⟨f, i, hi, rfl⟩
  · refine both (v := (-1)) (h1 := (zmk r c c c2 I J Q N A U V X S t)) (h2 := (zmk r c c c2 I J Q N A U V X S t)) ?_ ?_ (st_mk iv t1 t2)
    · simp only [E_X5_keep_0, mo_0, mg_0_0, mg_0_1, mg_0_2, mg_0_3, mg_0_4, mg_0_5, mg_0_6, mg_0_7, mg_0_8, mg_0_9, mg_0_10, mg_0_11, k_kept, f, if_true, zcI_some]
    · simp only [E_X6_keep_0, m_in r _ a 0 2 (l := 0) (k := 2) rfl rfl, bw, f, if_true, zcI_some]
  by_cases m0 : nI C.2.1 = 0
  · refine both (v := (-4)) (h1 := (zmk r c c c2 I J Q N A U V X S t)) (h2 := (zmk r c c c2 I J Q N A U V X S t)) ?_ ?_ (st_mk iv t1 t2)
    · simp only [E_X5_keep_0, mo_0, mg_0_0, mg_0_1, mg_0_2, mg_0_3, mg_0_4, mg_0_5, mg_0_6, mg_0_7, mg_0_8, mg_0_9, mg_0_10, mg_0_11, k_kept, f, i01, if_false, if_true, zcI_some, (hC ..).2.2.1, Option.bind_some, m0]
    · simp only [E_X6_keep_0, m_in r _ (nI i) 0 2 (l := 0) (k := 2) rfl rfl, bw, f, i01, if_false, zcI_some, mo_49, mg_49_0, mg_49_1, mg_49_2, mg_49_3, mg_49_4, mg_49_5, mg_49_6, mg_49_7, mg_49_8, mg_49_9, mg_49_10, mg_49_11, mg_49_12, mg_49_13, mg_49_14, mg_49_15, mg_49_16, mg_49_17, mg_49_18, mg_49_19, mg_49_20, mg_49_21, mg_49_22, mg_49_23, mg_49_24, mg_49_25, mv.2.1, Option.bind_some, m0, if_true]
  have eb : (1099 : Int32) * (1 + nI i) = nI (1099 * (1 + i)) := by rw [show (1 : Int32) + nI i = nI (1 + i) from nI_add 1 i, show (1099 : Int32) = nI 1099 from rfl, pk_mul]
  have xl : ∀ j, j < 1099 → va_cpy (X 0) (X 0) 0 (1099 * (1 + i)) 1099 j = X 0 j := fun j hj => by
    unfold va_cpy; rw [if_neg (by omega)]
  have iv2 : zIv r C c (va_up I (3 + i) (I 2)) J (va_up Q (10 + i) (va_cpy (Q 9) (Q (10 + i)) 0 0 1098)) N U V (va_up X 0 (va_cpy (X 0) (X 0) 0 (1099 * (1 + i)) 1099)) t := by
    refine ⟨k, hC, zMv_c mv rfl rfl rfl rfl rfl rfl, zTo_c a4 (va_ne (by omega)) (va_ne (by omega)) rfl rfl (va_ne (by omega)) rfl rfl rfl rfl rfl, zRo_c a5 (fun j _ => va_ne (by omega)) (fun j _ => va_ne (by omega)) rfl rfl, zTe_c a6 (fun j _ => va_ne (by omega)) (fun j _ => va_ne (by omega)) rfl rfl, ⟨no.1, no.2.1, fun m hm => ?_⟩, ⟨d, (va_ne (by omega)).trans hd, ?_⟩, fun j hj => ?_⟩
    · rw [va_same, xl _ (by omega), xl _ (by omega), xl _ (by omega)]
      exact no.2.2 m hm
    · rw [va_ne (by omega), va_same]
      exact past_c k (fun _ _ => rfl) xl hp
    · by_cases w : j = i
      · subst w
        refine .inr ⟨d, va_same.trans hd, ?_⟩
        rw [va_same, va_same]
        refine past_c k (fun x hx => ?_) (fun x hx => ?_) hp
        · unfold va_cpy; rw [if_pos (by omega), show 0 + (x - 0) = x by omega]
        · unfold va_cpy; rw [if_pos (by omega), show 0 + (1099 * (1 + j) + x - 1099 * (1 + j)) = x by omega]
      · rw [va_ne (show 3 + j ≠ 3 + i by omega), va_ne (show 10 + j ≠ 10 + i by omega), va_same]
        have xo : ∀ y, y < 1099 → va_cpy (X 0) (X 0) 0 (1099 * (1 + i)) 1099 (1099 * (1 + j) + y) = X 0 (1099 * (1 + j) + y) := fun y hy => by
          unfold va_cpy; rw [if_neg (by omega)]
        have x0 := xo 0 (by decide)
        rw [Nat.add_zero] at x0
        rcases ke j hj with ⟨q1, q2⟩ | ⟨e, q1, q2⟩
        · exact .inl ⟨q1, x0.trans q2⟩
        · exact .inr ⟨e, q1, past_c k (fun _ _ => rfl) xo q2⟩
  refine both (v := (nI d)) (h1 := (zmk r c c c2 (va_up I (3 + i) (I 2)) J (va_up Q (10 + i) (va_cpy (Q 9) (Q (10 + i)) 0 0 1098)) N A U V X S t)) (h2 := (zmk r c c c2 (va_up I (3 + i) (I 2)) J (va_up Q (10 + i) (va_cpy (Q 9) (Q (10 + i)) 0 0 1098)) N A U V (va_up X 0 (va_cpy (X 0) (X 0) 0 (1099 * (1 + i)) 1099)) S t)) ?_ ?_ (st_mk iv2 t1 t2)
  · simp only [E_X5_keep_0, mo_0, mg_0_0, mg_0_1, mg_0_2, mg_0_3, mg_0_4, mg_0_5, mg_0_6, mg_0_7, mg_0_8, mg_0_9, mg_0_10, mg_0_11, k_kept, f, i01, if_false, if_true, zcI_some, (hC ..).2.2.1, Option.bind_some, m0, mq_21 hi, mo_k hi, g_copy hi, zcV_some, mg_19_1, va_ne (show 2 ≠ 3 + i by omega), hd]
  · simp only [E_X6_keep_0, m_in r _ (nI i) 0 2 (l := 0) (k := 2) rfl rfl, bw, f, i01, if_false, zcI_some, mo_49, mg_49_0, mg_49_1, mg_49_2, mg_49_3, mg_49_4, mg_49_5, mg_49_6, mg_49_7, mg_49_8, mg_49_9, mg_49_10, mg_49_11, mg_49_12, mg_49_13, mg_49_14, mg_49_15, mg_49_16, mg_49_17, mg_49_18, mg_49_19, mg_49_20, mg_49_21, mg_49_22, mg_49_23, mg_49_24, mg_49_25, mv.2.1, Option.bind_some, m0, if_true, eb]
    have := m_copyd (r := r) (c0 := c) (c1 := c) (c2 := c2) (I := va_up I (3 + i) (I 2)) (J := J) (Q := va_up Q (10 + i) (va_cpy (Q 9) (Q (10 + i)) 0 0 1098)) (N := N) (A := A) (U := U) (V := V) (X := X) (S := S) (t := t) (a := 0) (b := 1099 * (1 + i)) (by decide) (by omega) (by omega)
    rw [show nI 0 = (0 : Int32) from rfl] at this
    rw [this]
    simp only [zcV_some, mo_49, mg_49_0, mg_49_1, mg_49_2, mg_49_3, mg_49_4, mg_49_5, mg_49_6, mg_49_7, mg_49_8, mg_49_9, mg_49_10, mg_49_11, mg_49_12, mg_49_13, mg_49_14, mg_49_15, mg_49_16, mg_49_17, mg_49_18, mg_49_19, mg_49_20, mg_49_21, mg_49_22, mg_49_23, mg_49_24, mg_49_25, Option.bind_some]
    rw [nI_0', ma_50 (show 0 < 4396 by decide), va_same, xl 0 (by decide), d0]
    rfl
theorem lk_on (a : Int32) {h : zH} (st : zSt r n h) : zBoth r n n (zev r i_X5_on 0 [some (.ref (r.1 + 0)), some (.int a)] []) (zev r i_X6_on 0 [some (.ref (r.1 + 49)), some (.int a)] []) h := by
  obtain ⟨C, c, c2, I, J, Q, N, A, U, V, X, S, t, rfl, iv, t1, t2⟩ := st
  obtain ⟨k, hC, mv, a4, a5, a6, no, _, ke⟩ := id iv
  have k2 := k.2.1
  have bw : zbw 0 2 a = zhk 3 a := by rw [← zbw_hk (by decide) a]; rfl
  rcases zhk_cases 3 (by decide) a with f | ⟨f, i, hi, rfl⟩
  · refine both (v := (-1)) (h1 := (zmk r c c c2 I J Q N A U V X S t)) (h2 := (zmk r c c c2 I J Q N A U V X S t)) ?_ ?_ (st_mk iv t1 t2)
    · simp only [E_X5_on_0, mo_0, mg_0_0, mg_0_1, mg_0_2, mg_0_3, mg_0_4, mg_0_5, mg_0_6, mg_0_7, mg_0_8, mg_0_9, mg_0_10, mg_0_11, k_kept, f, if_true, zcI_some]
    · simp only [E_X6_on_0, m_in r _ a 0 2 (l := 0) (k := 2) rfl rfl, bw, f, if_true, zcI_some]
  have eb : (1099 : Int32) * (1 + nI i) = nI (1099 * (1 + i)) := by rw [show (1 : Int32) + nI i = nI (1 + i) from nI_add 1 i, show (1099 : Int32) = nI 1099 from rfl, pk_mul]
  have eb0 : nI (1099 * (1 + i)) + 0 = nI (1099 * (1 + i)) := by simp
  have miss : zev r i_X2_isMissing 0 [some (.ref (r.1 + 43 + 2 * i))] [] (zmk r c c c2 I J Q N A U V X S t) = some (some (.int (if I (3 + i) = -1 then 1 else 0)), (zmk r c c c2 I J Q N A U V X S t)) := by
    simp only [E_X2_isMissing_0, mgs_k hi, Option.bind_some]
    split <;> rfl
  rcases ke i hi with ⟨q1, q2⟩ | ⟨d, q1, q2⟩
  · refine both (v := (-3)) (h1 := (zmk r c c c2 (va_up I 1 (nI 1)) J (va_up Q 0 (upd (Q 0) 1 (Q 0 1 + 1))) N A U V X S t)) (h2 := (zmk r c c c2 (va_up I 1 (nI 1)) J (va_up Q 0 (upd (Q 0) 1 (Q 0 1 + 1))) N A (va_up U 3 (nI 1)) V (va_up X 9 (upd (X 9) 1 (X 9 1 + 1))) S t)) ?_ ?_ (st_mk (iv_found 1 iv (by decide) (by decide)) t1 t2)
    · simp only [E_X5_on_0, mo_0, mg_0_0, mg_0_1, mg_0_2, mg_0_3, mg_0_4, mg_0_5, mg_0_6, mg_0_7, mg_0_8, mg_0_9, mg_0_10, mg_0_11, k_kept, f, i01, if_false, if_true, zcI_some, Option.bind_some, mq_21 hi, mo_k hi, miss, q1, k_f1]
    · simp only [E_X6_on_0, m_in r _ (nI i) 0 2 (l := 0) (k := 2) rfl rfl, bw, f, i01, if_false, zcI_some, mo_49, mg_49_0, mg_49_1, mg_49_2, mg_49_3, mg_49_4, mg_49_5, mg_49_6, mg_49_7, mg_49_8, mg_49_9, mg_49_10, mg_49_11, mg_49_12, mg_49_13, mg_49_14, mg_49_15, mg_49_16, mg_49_17, mg_49_18, mg_49_19, mg_49_20, mg_49_21, mg_49_22, mg_49_23, mg_49_24, mg_49_25, Option.bind_some, eb, eb0, ma_50 (show 1099 * (1 + i) < 4396 by omega), q2, show (-1 : Int32) < 0 by decide, if_true, m_f1]
  have d6 := q2.1
  have xd : X 0 (1099 * (1 + i)) = nI d := q2.2.1
  have xl : ∀ j, j < 1099 → va_cpy (X 0) (X 0) (1099 * (1 + i)) 0 1099 j = X 0 (1099 * (1 + i) + j) := fun j hj => by
    unfold va_cpy; rw [if_pos (by omega), Nat.sub_zero]
  have hp2 : zPast C d (va_cpy (Q (10 + i)) (Q 9) 0 0 1098) (va_cpy (X 0) (X 0) (1099 * (1 + i)) 0 1099) := past_c k (fun x hx => by unfold va_cpy; rw [if_pos (by omega), show 0 + (x - 0) = x by omega]) xl q2
  obtain ⟨N', e1, e2, e3⟩ := g_back (d := d) (c0 := c) (c2 := c2) (I := va_up I 2 (I (3 + i))) (J := J) (Q := va_up Q 9 (va_cpy (Q (10 + i)) (Q 9) 0 0 1098)) (N := N) (A := A) (U := U) (V := V) (X := X) (S := S) k hC (e := d) (Nat.le_refl d) d6 (va_same.trans q1) (by rw [va_same]; exact (hp2.2.2.2.2 d (Nat.le_refl d)).1)
  rw [va_same] at e3
  rw [bx_uu] at e1
  have iv2 := iv_set iv (va_cpy (Q (10 + i)) (Q 9) 0 0 1098) (va_cpy (X 0) (X 0) (1099 * (1 + i)) 0 1099) hp2 N' e2 e3 (fun x hx => by unfold va_cpy; rw [if_neg (by omega)])
  refine both (v := (nI d)) (h1 := (zmk r c c c2 (va_up I 2 (nI d)) J (va_up Q 9 (va_cpy (Q (10 + i)) (Q 9) 0 0 1098)) (N') A U V X S t)) (h2 := (zmk r c c c2 (va_up I 2 (nI d)) J (va_up Q 9 (va_cpy (Q (10 + i)) (Q 9) 0 0 1098)) (N') A U V (va_up X 0 (va_cpy (X 0) (X 0) (1099 * (1 + i)) 0 1099)) S t)) ?_ ?_ (st_mk iv2 t1 t2)
  · rw [q1] at e1
    simp only [E_X5_on_0, mo_0, mg_0_0, mg_0_1, mg_0_2, mg_0_3, mg_0_4, mg_0_5, mg_0_6, mg_0_7, mg_0_8, mg_0_9, mg_0_10, mg_0_11, mo_19, k_kept, f, i01, if_false, if_true, zcI_some, Option.bind_some, mq_21 hi, mo_k hi, miss, q1, nI_m1 (show d < 2 ^ 31 by omega), g_copy2 hi, zcV_some, mg_19_1, va_same, e1]
  · simp only [E_X6_on_0, m_in r _ (nI i) 0 2 (l := 0) (k := 2) rfl rfl, bw, f, i01, if_false, zcI_some, mo_49, mg_49_0, mg_49_1, mg_49_2, mg_49_3, mg_49_4, mg_49_5, mg_49_6, mg_49_7, mg_49_8, mg_49_9, mg_49_10, mg_49_11, mg_49_12, mg_49_13, mg_49_14, mg_49_15, mg_49_16, mg_49_17, mg_49_18, mg_49_19, mg_49_20, mg_49_21, mg_49_22, mg_49_23, mg_49_24, mg_49_25, Option.bind_some, eb, eb0, ma_50 (show 1099 * (1 + i) < 4396 by omega), xd, nI_pos (show d < 2 ^ 31 by omega), if_true]
    have := m_copyd (r := r) (c0 := c) (c1 := c) (c2 := c2) (I := va_up I 2 (nI d)) (J := J) (Q := va_up Q 9 (va_cpy (Q (10 + i)) (Q 9) 0 0 1098)) (N := N') (A := A) (U := U) (V := V) (X := X) (S := S) (t := t) (a := 1099 * (1 + i)) (b := 0) (by omega) (by decide) (by omega)
    rw [show nI 0 = (0 : Int32) from rfl] at this
    rw [this]
    simp only [zcV_some, mo_49, mg_49_0, mg_49_1, mg_49_2, mg_49_3, mg_49_4, mg_49_5, mg_49_6, mg_49_7, mg_49_8, mg_49_9, mg_49_10, mg_49_11, mg_49_12, mg_49_13, mg_49_14, mg_49_15, mg_49_16, mg_49_17, mg_49_18, mg_49_19, mg_49_20, mg_49_21, mg_49_22, mg_49_23, mg_49_24, mg_49_25, Option.bind_some]
    rw [nI_0', ma_50 (show 0 < 4396 by decide), va_same, xl 0 (by decide), Nat.add_zero, xd]
    rfl
end BACK
