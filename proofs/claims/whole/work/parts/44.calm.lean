/-! CALM, BY: both alike -/
theorem zs6_bit : ∀ a b c d e f : Bool, ∀ k, k < 6 → ((zs6 a b c d e f &&& ((1 : Int32) <<< (nI k &&& 31)) = 0) ↔ (match k with | 0 => a | 1 => b | 2 => c | 3 => d | 4 => e | _ => f) = false) := by decide +kernel
section CALM
variable {r : zE} {c0 c1 c2 : Nat} {I : Nat → Int32} {J : Nat → Int64} {Q : Nat → Nat → Int32} {N A : zBr} {U : Nat → Int32} {V : Nat → Int64} {X : Nat → Nat → Int32} {S : zSs} {t : zH} {C : zCs} {c n d : Nat}
theorem sBe_bit (k : zCk C) {H : zA} {m q : Nat} (hq : q < C.2.1) (w : Int32) : (sBe C H m w &&& ((1 : Int32) <<< (nI q &&& 31)) = 0) ↔ sBes C H q m w = 0 := by
  have k2 := k.2.1
  rw [sBe_st, ySt_6 _ k2, zs6_eq, zs6_bit _ _ _ _ _ _ q (by omega)]
  have e : ∀ b : Bool, (b && decide (q < C.2.1)) = b := fun b => by rw [decide_eq_true hq, Bool.and_true]
  have q6 : q < 6 := by omega
  match q, q6, hq, e with
  | 0, _, hq, e => simp [e]
  | 1, _, hq, e => simp [e]
  | 2, _, hq, e => simp [e]
  | 3, _, hq, e => simp [e]
  | 4, _, hq, e => simp [e]
  | 5, _, hq, e => simp [e]
  | q + 6, h, _, _ => exact absurd h (by omega)
/-- two changed -/
def ySw (H : zA) (m q : Nat) : zA := upd (upd H q (H m)) m (H q)
theorem ySw_c {f g : zA} {m q : Nat} (e : ∀ p, p < C.2.1 → f p = g p) (hm : m < C.2.1) (hq : q < C.2.1) : ∀ p, p < C.2.1 → ySw f m q p = ySw g m q p := fun p hp => by
  unfold ySw
  by_cases w : p = m
  · subst w; rw [upd_s, upd_s, e q hq]
  · rw [upd_n w, upd_n w]
    by_cases w2 : p = q
    · subst w2; rw [upd_s, upd_s, e m hm]
    · rw [upd_n w2, upd_n w2, e p hp]
def yGl (C : zCs) (H L : zA) (m q : Nat) (w : Int32) : Int32 := if sIn C H m w = 0 then 0 else if sIn C H q w = 0 then 0 else if sWo C (ySw H m q) L m w (-9) < sWo C H L m w (-9) then if sWo C (ySw H m q) L q w (-9) < sWo C H L q w (-9) then 1 else 0 else 0
theorem yGl_c {H H' L L' : zA} {m q : Nat} (e : ∀ p, p < C.2.1 → H' p = H p) (el : ∀ p, p < C.2.1 → L' p = L p) (hm : m < C.2.1) (hq : q < C.2.1) (w : Int32) : yGl C H' L' m q w = yGl C H L m q w := by
  unfold yGl
  rw [sIn_c (e m hm), sIn_c (e q hq), sWo_c hm (ySw_c e hm hq) el, sWo_c hm e el, sWo_c hq (ySw_c e hm hq) el, sWo_c hq e el]
theorem k_glad (E : zEk r) (k : zCk C) (hC : zCt r t c C) (no : zNo C N X) {m q : Nat} (hm : m < C.2.1) (hq : q < C.2.1) (hn : m ≠ q) (w : Int32) : ∃ c2' A', zev r i_X5_wouldBothGladlyChange 0 [some (.ref (r.1 + 0)), some (.int (nI m)), some (.int (nI q)), some (.int w)] [] (zmk r c c c2 I J Q N A U V X S t) = some (some (.int (yGl C N.1 N.2.2.1 m q w)), (zmk r c c (c2') I J Q N (A') U V X S t)) := by
  unfold yGl
  by_cases e1 : sIn C N.1 m w = 0
  · refine ⟨c2, A, ?_⟩
    simp only [E_X5_wouldBothGladlyChange_0, mo_0, mg_0_0, mg_0_1, mg_0_2, mg_0_3, mg_0_4, mg_0_5, mg_0_6, mg_0_7, mg_0_8, mg_0_9, mg_0_10, mg_0_11, mo_9, Option.bind_some, if_true, b_in (nBx hC) k hm, e1, zcI_some]
  by_cases e2 : sIn C N.1 q w = 0
  · refine ⟨c2, A, ?_⟩
    simp only [E_X5_wouldBothGladlyChange_0, mo_0, mg_0_0, mg_0_1, mg_0_2, mg_0_3, mg_0_4, mg_0_5, mg_0_6, mg_0_7, mg_0_8, mg_0_9, mg_0_10, mg_0_11, mo_9, Option.bind_some, if_true, if_false, b_in (nBx hC) k hm, b_in (nBx hC) k hq, e1, e2, zcI_some]
  have ax := aBx (r := r) (c0 := c) (c1 := c) (I := I) (J := J) (Q := Q) (N := N) (U := U) (V := V) (X := X) (S := S) hC
  obtain ⟨G', e3, cg1⟩ := b_swap ax k (B := yCp N A) (cp_cg k no.1 A) hm hq hn
  have l1 := cp_lk k no.2.1 A
  have v1 := b_wak ax k E (B := (upd (upd (yCp N A).1 q ((yCp N A).1 m)) m ((yCp N A).1 q), G', (yCp N A).2.2.1, (yCp N A).2.2.2)) l1 cg1 hm w
  have v2 := b_wak ax k E (B := (upd (upd (yCp N A).1 q ((yCp N A).1 m)) m ((yCp N A).1 q), G', (yCp N A).2.2.1, (yCp N A).2.2.2)) l1 cg1 hq w
  have s1 : sWo C (upd (upd (yCp N A).1 q ((yCp N A).1 m)) m ((yCp N A).1 q)) (yCp N A).2.2.1 m w (-9) = sWo C (ySw N.1 m q) N.2.2.1 m w (-9) := sWo_c hm (ySw_c (cp_h k N A) hm hq) (cp_l k N A) _ _
  have s2 : sWo C (upd (upd (yCp N A).1 q ((yCp N A).1 m)) m ((yCp N A).1 q)) (yCp N A).2.2.1 q w (-9) = sWo C (ySw N.1 m q) N.2.2.1 q w (-9) := sWo_c hq (ySw_c (cp_h k N A) hm hq) (cp_l k N A) _ _
  dsimp only at v1 v2
  rw [s1] at v1
  rw [s2] at v2
  have n1 := fun A => b_wak (nBx (c0 := c) (c2 := c) (I := I) (J := J) (Q := Q) (A := A) (U := U) (V := V) (X := X) (S := S) hC) k E (B := N) no.2.1 no.1 hm w
  have n2 := fun A => b_wak (nBx (c0 := c) (c2 := c) (I := I) (J := J) (Q := Q) (A := A) (U := U) (V := V) (X := X) (S := S) hC) k E (B := N) no.2.1 no.1 hq w
  refine ⟨c, (upd (upd (yCp N A).1 q ((yCp N A).1 m)) m ((yCp N A).1 q), G', (yCp N A).2.2.1, (yCp N A).2.2.2), ?_⟩
  simp only [E_X5_wouldBothGladlyChange_0, mo_0, mg_0_0, mg_0_1, mg_0_2, mg_0_3, mg_0_4, mg_0_5, mg_0_6, mg_0_7, mg_0_8, mg_0_9, mg_0_10, mg_0_11, mo_9, mo_14, Option.bind_some, if_true, if_false, b_in (nBx hC) k hm, b_in (nBx hC) k hq, e1, e2, zcI_some, a_copy, zcV_some, e3, v1, v2, n1, n2]
  split
  · split <;> rfl
  · rfl
theorem sw_back (f : zA) {m q : Nat} (hn : m ≠ q) : upd (upd (upd (upd f m (f q)) q (f m)) m (upd (upd f m (f q)) q (f m) q)) q (upd (upd f m (f q)) q (f m) m) = f := by
  funext p
  by_cases w : p = q
  · subst w; rw [upd_s, upd_n hn, upd_s]
  · rw [upd_n w]
    by_cases w2 : p = m
    · subst w2; rw [upd_s, upd_s]
    · rw [upd_n w2, upd_n w, upd_n w2]
theorem sw_sw (f : zA) {m q : Nat} (hn : m ≠ q) : upd (upd f m (f q)) q (f m) = ySw f m q := by
  funext p
  exact sw_eq hn rfl rfl rfl
theorem sw_vd {f : zA} {m q : Nat} (hm : m < C.2.1) (hq : q < C.2.1) (v : zVd C f) : zVd C (ySw f m q) := fun p hp => by
  unfold ySw
  by_cases w : p = m
  · subst w; rw [upd_s]; exact v q hq
  · rw [upd_n w]
    by_cases w2 : p = q
    · subst w2; rw [upd_s]; exact v m hm
    · rw [upd_n w2]; exact v p hp
theorem m_glad (mv : zMv C U X) (k : zCk C) (v : zVd C S.1) {m q : Nat} (hm : m < C.2.1) (hq : q < C.2.1) (hn : m ≠ q) (w : Int32) : zev r i_X6_wouldChange 0 [some (.ref (r.1 + 49)), some (.int (nI m)), some (.int (nI q)), some (.int w), none, none, none] [] (zmk r c0 c1 c2 I J Q N A U V X S t) = some (some (.int (yGl C S.1 S.2.1 m q w)), zmk r c0 c1 c2 I J Q N A U V X S t) := by
  have k2 := k.2.1
  have m6 : m < 6 := by omega
  have q6 : q < 6 := by omega
  have w1 := m_woken (r := r) (c0 := c0) (c1 := c1) (c2 := c2) (I := I) (J := J) (Q := Q) (N := N) (A := A) (V := V) (S := (ySw S.1 m q, S.2.1, S.2.2)) (t := t) mv k hm (sw_vd hm hq v m hm) w (-9)
  have w2 := m_woken (r := r) (c0 := c0) (c1 := c1) (c2 := c2) (I := I) (J := J) (Q := Q) (N := N) (A := A) (V := V) (S := (ySw S.1 m q, S.2.1, S.2.2)) (t := t) mv k hq (sw_vd hm hq v q hq) w (-9)
  have sb := sw_back S.1 hn
  rw [sw_sw S.1 hn] at sb
  unfold yGl
  by_cases e1 : sIn C S.1 m w = 0
  · simp only [E_X6_wouldChange_0, mo_49, mg_49_0, mg_49_1, mg_49_2, mg_49_3, mg_49_4, mg_49_5, mg_49_6, mg_49_7, mg_49_8, mg_49_9, mg_49_10, mg_49_11, mg_49_12, mg_49_13, mg_49_14, mg_49_15, mg_49_16, mg_49_17, mg_49_18, mg_49_19, mg_49_20, mg_49_21, mg_49_22, mg_49_23, mg_49_24, mg_49_25, if_true, m_isin mv k hm, e1, zcI_some]
  by_cases e2 : sIn C S.1 q w = 0
  · simp only [E_X6_wouldChange_0, mo_49, mg_49_0, mg_49_1, mg_49_2, mg_49_3, mg_49_4, mg_49_5, mg_49_6, mg_49_7, mg_49_8, mg_49_9, mg_49_10, mg_49_11, mg_49_12, mg_49_13, mg_49_14, mg_49_15, mg_49_16, mg_49_17, mg_49_18, mg_49_19, mg_49_20, mg_49_21, mg_49_22, mg_49_23, mg_49_24, mg_49_25, if_true, if_false, m_isin mv k hm, m_isin mv k hq, e1, e2, zcI_some]
  simp only [E_X6_wouldChange_0, mo_49, mg_49_0, mg_49_1, mg_49_2, mg_49_3, mg_49_4, mg_49_5, mg_49_6, mg_49_7, mg_49_8, mg_49_9, mg_49_10, mg_49_11, mg_49_12, mg_49_13, mg_49_14, mg_49_15, mg_49_16, mg_49_17, mg_49_18, mg_49_19, mg_49_20, mg_49_21, mg_49_22, mg_49_23, mg_49_24, mg_49_25, if_true, if_false, m_isin mv k hm, m_isin mv k hq, e1, e2, zcI_some, m_woken mv k hm (v m hm), m_woken mv k hq (v q hq), m_swap m6 q6, zcV_some, sw_sw S.1 hn, w1, w2, sb]
  split
  · split <;> rfl
  · rfl
def yCi (C : zCs) (H L : zA) (w : Int32) (m : Nat) (a : Int32) (i : Nat) : Int32 := if a = -9 then if yGl C H L m (m + 1 + i) w = 0 then a else nI (6 * m + (m + 1 + i)) else a
def yCo (C : zCs) (H L : zA) (w : Int32) (a : Int32) (m : Nat) : Int32 := zfd (yCi C H L w m) 0 (C.2.1 - (m + 1)) a
theorem yCi_stay {H L : zA} {w : Int32} {m : Nat} {a : Int32} (ha : ¬ a = -9) : ∀ {q j : Nat}, zfd (yCi C H L w m) j q a = a
  | 0, _ => rfl
  | q + 1, j => by
    rw [zfd, show yCi C H L w m a j = a from if_neg ha]
    exact yCi_stay ha
theorem yCo_stay {H L : zA} {w : Int32} {a : Int32} (ha : ¬ a = -9) : ∀ {q j : Nat}, zfd (yCo C H L w) j q a = a
  | 0, _ => rfl
  | q + 1, j => by
    rw [zfd, show yCo C H L w a j = a from yCi_stay ha]
    exact yCo_stay ha
theorem k_pair (E : zEk r) (k : zCk C) (hC : zCt r t c C) (no : zNo C N X) (w : Int32) : ∃ c2' A', zev r i_X5_firstGladPair 0 [some (.ref (r.1 + 0)), some (.int w), none, none] [] (zmk r c c c2 I J Q N A U V X S t) = some (some (.int (zfd (yCo C N.1 N.2.2.1 w) 0 C.2.1 (-9))), (zmk r c c (c2') I J Q N (A') U V X S t)) := by
  have k2 := k.2.1
  rw [E_X5_firstGladPair_0]
  refine zloopS (fun j (s : Nat × zBr) => zfd (yCo C N.1 N.2.2.1 w) 0 j (-9) = -9) (fun e => ∃ c2' A', e = some (some (.int (zfd (yCo C N.1 N.2.2.1 w) 0 C.2.1 (-9))), (zmk r c c (c2') I J Q N (A') U V X S t))) (fun j (s : Nat × zBr) => zev r i_X5_firstGladPair 2 [some (.ref (r.1 + 0)), some (.int w), some (.int (nI j)), none] [] (zmk r c c (s.1) I J Q N (s.2) U V X S t)) C.2.1 (fun m s hm p => ?_) (fun s p => ⟨s.1, s.2, ?_⟩) (c2, A) rfl
  · have tot : zfd (yCo C N.1 N.2.2.1 w) 0 C.2.1 (-9) = zfd (yCo C N.1 N.2.2.1 w) (m + 1) (C.2.1 - (m + 1)) (yCo C N.1 N.2.2.1 w (-9) m) := by
      rw [show C.2.1 = m + 1 + (C.2.1 - (m + 1)) by omega, zfd_cat, zfd_succ, p, Nat.zero_add, Nat.zero_add]
      congr 1
      omega
    have inner := zloopS (fun i (s : Nat × zBr) => zfd (yCi C N.1 N.2.2.1 w m) 0 i (-9) = -9) (fun e => (∃ c2' A', e = some (some (.int (zfd (yCo C N.1 N.2.2.1 w) 0 C.2.1 (-9))), (zmk r c c (c2') I J Q N (A') U V X S t))) ∨ ∃ s' : Nat × zBr, e = zev r i_X5_firstGladPair 2 [some (.ref (r.1 + 0)), some (.int w), some (.int (nI (m + 1))), none] [] (zmk r c c (s'.1) I J Q N (s'.2) U V X S t) ∧ yCo C N.1 N.2.2.1 w (-9) m = -9) (fun i (s : Nat × zBr) => zev r i_X5_firstGladPair 17 [some (.ref (r.1 + 0)), some (.int w), some (.int (nI m)), some (.int (nI (m + 1 + i)))] [] (zmk r c c (s.1) I J Q N (s.2) U V X S t)) (C.2.1 - (m + 1)) (fun i s hi p => by
      obtain ⟨c3, A3, e3⟩ := k_glad (c2 := s.1) (A := s.2) (I := I) (J := J) (Q := Q) (U := U) (V := V) (S := S) E k hC no (m := m) (q := m + 1 + i) hm (by omega) (by omega) w
      by_cases z : yGl C N.1 N.2.2.1 m (m + 1 + i) w = 0
      · refine .inr ⟨(c3, A3), ?_, ?_⟩
        · refine (E_X5_firstGladPair_17 ..).trans ?_
          simp only [mo_0, mg_0_0, mg_0_1, mg_0_2, mg_0_3, mg_0_4, mg_0_5, mg_0_6, mg_0_7, mg_0_8, mg_0_9, mg_0_10, mg_0_11, (hC ..).2.2.1, Option.bind_some, if_pos (nI_lt6 k (show m + 1 + i < C.2.1 by omega)), if_true, e3, z, zcI_some, nI_1, show m + 1 + i + 1 = m + 1 + (i + 1) by omega]
        · rw [zfd_succ, Nat.zero_add, p]
          unfold yCi
          rw [if_pos rfl, if_pos z]
      · refine .inl (.inl ⟨c3, A3, ?_⟩)
        have v : zfd (yCo C N.1 N.2.2.1 w) 0 C.2.1 (-9) = nI (6 * m + (m + 1 + i)) := by
          have nn : ¬ nI (6 * m + (m + 1 + i)) = -9 := nI_n9 (by omega)
          have : yCo C N.1 N.2.2.1 w (-9) m = nI (6 * m + (m + 1 + i)) := by
            unfold yCo
            rw [show C.2.1 - (m + 1) = i + 1 + (C.2.1 - (m + 1) - (i + 1)) by omega, zfd_cat, zfd_succ, p, Nat.zero_add, Nat.zero_add]
            rw [show yCi C N.1 N.2.2.1 w m (-9) i = nI (6 * m + (m + 1 + i)) by unfold yCi; rw [if_pos rfl, if_neg z]]
            exact yCi_stay nn
          rw [tot, this]
          exact yCo_stay nn
        refine (E_X5_firstGladPair_17 ..).trans ?_
        have e6 : (6 : Int32) * nI m + nI (m + 1 + i) = nI (6 * m + (m + 1 + i)) := by rw [show (6 : Int32) = nI 6 from rfl, pk_mul, nI_add]
        simp only [mo_0, mg_0_0, mg_0_1, mg_0_2, mg_0_3, mg_0_4, mg_0_5, mg_0_6, mg_0_7, mg_0_8, mg_0_9, mg_0_10, mg_0_11, (hC ..).2.2.1, Option.bind_some, if_pos (nI_lt6 k (show m + 1 + i < C.2.1 by omega)), if_true, e3, z, if_false, zcI_some, e6, v]) (fun s p => by
      refine .inr ⟨s, ?_, p⟩
      refine (E_X5_firstGladPair_17 ..).trans ?_
      rw [show m + 1 + (C.2.1 - (m + 1)) = C.2.1 by omega]
      simp only [mo_0, mg_0_0, mg_0_1, mg_0_2, mg_0_3, mg_0_4, mg_0_5, mg_0_6, mg_0_7, mg_0_8, mg_0_9, mg_0_10, mg_0_11, (hC ..).2.2.1, Option.bind_some, if_neg (nI_nlt6 k), nI_1]) s rfl
    have start : zev r i_X5_firstGladPair 2 [some (.ref (r.1 + 0)), some (.int w), some (.int (nI m)), none] [] (zmk r c c (s.1) I J Q N (s.2) U V X S t) = zev r i_X5_firstGladPair 17 [some (.ref (r.1 + 0)), some (.int w), some (.int (nI m)), some (.int (nI (m + 1 + 0)))] [] (zmk r c c (s.1) I J Q N (s.2) U V X S t) := by
      refine (E_X5_firstGladPair_2 ..).trans ?_
      simp only [mo_0, mg_0_0, mg_0_1, mg_0_2, mg_0_3, mg_0_4, mg_0_5, mg_0_6, mg_0_7, mg_0_8, mg_0_9, mg_0_10, mg_0_11, (hC ..).2.2.1, Option.bind_some, if_pos (nI_lt6 k hm), nI_1]
    rw [start]
    rcases inner with q | ⟨s', e, q⟩
    · exact .inl q
    · refine .inr ⟨s', e, ?_⟩
      rw [zfd_succ, p, Nat.zero_add]
      exact q
  · refine (E_X5_firstGladPair_2 ..).trans ?_
    simp only [mo_0, mg_0_0, mg_0_1, mg_0_2, mg_0_3, mg_0_4, mg_0_5, mg_0_6, mg_0_7, mg_0_8, mg_0_9, mg_0_10, mg_0_11, (hC ..).2.2.1, Option.bind_some, if_neg (nI_nlt6 k), p]
theorem lk_calm (E : zEk r) (w : Int32) {h : zH} (st : zSt r n h) : zBoth r n n (zev r i_X5_calm 0 [some (.ref (r.1 + 0)), some (.int w), none] []) (zev r i_X6_calm 0 [some (.ref (r.1 + 49)), some (.int w), none, none] []) h := by
  obtain ⟨C, c, c2, I, J, Q, N, A, U, V, X, S, t, rfl, iv, t1, t2⟩ := st
  obtain ⟨k, hC, mv, _, _, _, no, -⟩ := id iv
  have k2 := k.2.1
  rcases zhk_cases 3 (by decide) w with g | ⟨g, w, hw, rfl⟩
  · refine both (v := (-1)) (h1 := (zmk r c c c2 I J Q N A U V X S t)) (h2 := (zmk r c c c2 I J Q N A U V X S t)) ?_ ?_ (st_mk iv t1 t2)
    · simp only [E_X5_calm_0, k_when, g, if_true, zcI_some]
    · simp only [E_X6_calm_0, m_when, g, if_true, zcI_some]
  obtain ⟨c3, A3, e1⟩ := k_pair (c2 := c2) (A := A) (I := I) (J := J) (Q := Q) (U := U) (V := V) (S := S) E k hC no (nI w)
  generalize hv : zfd (yCo C N.1 N.2.2.1 (nI w)) 0 C.2.1 (-9) = v at e1
  have e2 : ∀ (I : zA) (c2 : Nat) (A : zBr), zev r i_X6_calm 0 [some (.ref (r.1 + 49)), some (.int (nI w)), none, none] [] (zmk r c c c2 I J Q N A U V X S t) = some (some (.int (if v = -9 then 1 else 0)), (zmk r c c c2 I J Q N A (va_up U 2 v) V X (zNw X S) t)) := by
    intro I c2 A
    simp only [E_X6_calm_0, m_when, g, i01, if_false, zcI_some, mo_49, mg_49_0, mg_49_1, mg_49_2, mg_49_3, mg_49_4, mg_49_5, mg_49_6, mg_49_7, mg_49_8, mg_49_9, mg_49_10, mg_49_11, mg_49_12, mg_49_13, mg_49_14, mg_49_15, mg_49_16, mg_49_17, mg_49_18, mg_49_19, mg_49_20, mg_49_21, mg_49_22, mg_49_23, mg_49_24, mg_49_25, if_true, m_now, zcV_some, mp_49_11, Option.bind_some]
    rw [← hv]
    refine zloop (fun m (a : Int32) => zev r i_X6_calm 21 [some (.ref (r.1 + 49)), some (.int (nI w)), some (.int (nI m)), none] [] (zmk r c c c2 I J Q N A (va_up U 2 a) V X (zNw X S) t)) (fun a => some (some (.int (if a = -9 then 1 else 0)), (zmk r c c c2 I J Q N A (va_up U 2 a) V X (zNw X S) t))) _ C.2.1 (fun m a hm => ?_) (fun a => ?_) (-9)
    · have mva : ∀ a, zMv C (va_up U 2 a) X := fun a => zMv_c mv (va_ne (by decide)) (va_ne (by decide)) rfl rfl rfl rfl
      refine (E_X6_calm_21 ..).trans ?_
      simp only [mo_49, mg_49_0, mg_49_1, mg_49_2, mg_49_3, mg_49_4, mg_49_5, mg_49_6, mg_49_7, mg_49_8, mg_49_9, mg_49_10, mg_49_11, mg_49_12, mg_49_13, mg_49_14, mg_49_15, mg_49_16, mg_49_17, mg_49_18, mg_49_19, mg_49_20, mg_49_21, mg_49_22, mg_49_23, mg_49_24, mg_49_25, Option.bind_some, if_pos (m_lt (mva a) k hm), nI_1]
      refine (zloop (fun i (a : Int32) => zev r i_X6_calm 33 [some (.ref (r.1 + 49)), some (.int (nI w)), some (.int (nI m)), some (.int (nI (m + 1 + i)))] [] (zmk r c c c2 I J Q N A (va_up U 2 a) V X (zNw X S) t)) (fun a => zev r i_X6_calm 21 [some (.ref (r.1 + 49)), some (.int (nI w)), some (.int (nI (m + 1))), none] [] (zmk r c c c2 I J Q N A (va_up U 2 a) V X (zNw X S) t)) (yCi C N.1 N.2.2.1 (nI w) m) (C.2.1 - (m + 1)) (fun i a hi => ?_) (fun a => ?_) a)
      · refine (E_X6_calm_33 ..).trans ?_
        have gl := m_glad (r := r) (c0 := c) (c1 := c) (c2 := c2) (I := I) (J := J) (Q := Q) (N := N) (A := A) (V := V) (S := zNw X S) (t := t) (mva a) k (now_v k no) (m := m) (q := m + 1 + i) hm (by omega) (by omega) (nI w)
        rw [yGl_c (now_h k no) (now_l k no) hm (show m + 1 + i < C.2.1 by omega)] at gl
        have e6 : (6 : Int32) * nI m + nI (m + 1 + i) = nI (6 * m + (m + 1 + i)) := by rw [show (6 : Int32) = nI 6 from rfl, pk_mul, nI_add]
        simp only [mo_49, mg_49_0, mg_49_1, mg_49_2, mg_49_3, mg_49_4, mg_49_5, mg_49_6, mg_49_7, mg_49_8, mg_49_9, mg_49_10, mg_49_11, mg_49_12, mg_49_13, mg_49_14, mg_49_15, mg_49_16, mg_49_17, mg_49_18, mg_49_19, mg_49_20, mg_49_21, mg_49_22, mg_49_23, mg_49_24, mg_49_25, Option.bind_some, if_pos (m_lt (mva a) k (show m + 1 + i < C.2.1 by omega)), va_same, if_true, gl, zcI_some, mp_49_11, bx_uu, nI_1, e6, show m + 1 + i + 1 = m + 1 + (i + 1) by omega]
        unfold yCi
        by_cases z : a = -9
        · rw [if_pos z, if_pos z]
          by_cases z2 : yGl C N.1 N.2.2.1 m (m + 1 + i) (nI w) = 0
          · rw [if_pos z2, if_pos z2]
          · rw [if_neg z2, if_neg z2]
        · rw [if_neg z, if_neg z]
      · refine (E_X6_calm_33 ..).trans ?_
        rw [show m + 1 + (C.2.1 - (m + 1)) = C.2.1 by omega]
        simp only [mo_49, mg_49_0, mg_49_1, mg_49_2, mg_49_3, mg_49_4, mg_49_5, mg_49_6, mg_49_7, mg_49_8, mg_49_9, mg_49_10, mg_49_11, mg_49_12, mg_49_13, mg_49_14, mg_49_15, mg_49_16, mg_49_17, mg_49_18, mg_49_19, mg_49_20, mg_49_21, mg_49_22, mg_49_23, mg_49_24, mg_49_25, Option.bind_some, if_neg (m_nlt (mva a) k), nI_1]
    · have mva : zMv C (va_up U 2 a) X := zMv_c mv (va_ne (by decide)) (va_ne (by decide)) rfl rfl rfl rfl
      refine (E_X6_calm_21 ..).trans ?_
      simp only [mo_49, mg_49_0, mg_49_1, mg_49_2, mg_49_3, mg_49_4, mg_49_5, mg_49_6, mg_49_7, mg_49_8, mg_49_9, mg_49_10, mg_49_11, mg_49_12, mg_49_13, mg_49_14, mg_49_15, mg_49_16, mg_49_17, mg_49_18, mg_49_19, mg_49_20, mg_49_21, mg_49_22, mg_49_23, mg_49_24, mg_49_25, Option.bind_some, if_neg (m_nlt mva k), va_same]
      split <;> rfl
  refine both (v := (if v = -9 then 1 else 0)) (h1 := (zmk r c c (c3) (va_up I 0 v) J Q N (A3) U V X S t)) (h2 := (zmk r c c (c3) (va_up I 0 v) J Q N (A3) (va_up U 2 v) V X (zNw X S) t)) ?_ (e2 _ _ _) (st_mk (iv_tell _ iv) t1 t2)
  simp only [E_X5_calm_0, k_when, g, i01, if_false, zcI_some, mo_0, mg_0_0, mg_0_1, mg_0_2, mg_0_3, mg_0_4, mg_0_5, mg_0_6, mg_0_7, mg_0_8, mg_0_9, mg_0_10, mg_0_11, if_true, e1, k_tell, zcV_some]
  split <;> rfl
end CALM
