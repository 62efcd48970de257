/-! ASIDE: what would be: gain, cut, calm, by -/
section ASIDE
variable {r : zE} {c0 c1 c2 : Nat} {I : Nat → Int32} {J : Nat → Int64} {Q : Nat → Nat → Int32} {N A : zBr} {Ga Va : Nat → Int32} {t : zH} {C : zCs} {c n d : Nat}
def yCp (N A : zBr) : zBr := (va_cpy N.1 A.1 0 0 6, va_cpy N.2.1 A.2.1 0 0 7, va_cpy N.2.2.1 A.2.2.1 0 0 6, va_cpy N.2.2.2 A.2.2.2 0 0 6)
theorem cpy_in {f g : zA} {n j : Nat} (h : j < n) : va_cpy f g 0 0 n j = f j := by
  unfold va_cpy; rw [if_pos (by omega), show 0 + (j - 0) = j by omega]
theorem a_copy : zev r i_X0_copyFrom 0 [some (.ref (r.1 + 14)), some (.ref (r.1 + 9))] [] (zmk r c0 c1 c2 I J Q N A Ga Va t) = some (none, (zmk r c0 c1 (c1) I J Q N (yCp N A) Ga Va t)) := by
  have e6 : (6 : Int32) = nI 6 := rfl
  have e7 : (7 : Int32) = nI 7 := rfl
  have p1 : ∀ A : zBr, zcp r (zmk r c0 c1 (c1) I J Q N A Ga Va t) (r.1 + 10) 0 (r.1 + 15) 0 6 = some (zmk r c0 c1 (c1) I J Q N ((va_cpy N.1 A.1 0 0 6, A.2.1, A.2.2.1, A.2.2.2)) Ga Va t) := fun A => by
    rw [nI_0', e6, zcp_of mc_10 mc_15 (by decide) (by decide) (by decide) (by decide), ms_15]
  have p2 : ∀ A : zBr, zcp r (zmk r c0 c1 (c1) I J Q N A Ga Va t) (r.1 + 11) 0 (r.1 + 16) 0 7 = some (zmk r c0 c1 (c1) I J Q N ((A.1, va_cpy N.2.1 A.2.1 0 0 7, A.2.2.1, A.2.2.2)) Ga Va t) := fun A => by
    rw [nI_0', e7, zcp_of mc_11 mc_16 (by decide) (by decide) (by decide) (by decide), ms_16]
  have p3 : ∀ A : zBr, zcp r (zmk r c0 c1 (c1) I J Q N A Ga Va t) (r.1 + 12) 0 (r.1 + 17) 0 6 = some (zmk r c0 c1 (c1) I J Q N ((A.1, A.2.1, va_cpy N.2.2.1 A.2.2.1 0 0 6, A.2.2.2)) Ga Va t) := fun A => by
    rw [nI_0', e6, zcp_of mc_12 mc_17 (by decide) (by decide) (by decide) (by decide), ms_17]
  have p4 : ∀ A : zBr, zcp r (zmk r c0 c1 (c1) I J Q N A Ga Va t) (r.1 + 13) 0 (r.1 + 18) 0 6 = some (zmk r c0 c1 (c1) I J Q N ((A.1, A.2.1, A.2.2.1, va_cpy N.2.2.2 A.2.2.2 0 0 6)) Ga Va t) := fun A => by
    rw [nI_0', e6, zcp_of mc_13 mc_18 (by decide) (by decide) (by decide) (by decide), ms_18]
  simp only [E_X0_copyFrom_0, mg_9_0, mg_9_1, mg_9_2, mg_9_3, mg_9_4, mg_14_1, mg_14_2, mg_14_3, mg_14_4, mp_14_0, Option.bind_some, p1, p2, p3, p4]
  rfl
theorem cp_h (k : zCk C) (N A : zBr) : ∀ m, m < C.2.1 → (yCp N A).1 m = N.1 m := fun m hm => cpy_in (by have := k.2.1; omega)
theorem cp_g (k : zCk C) (N A : zBr) : ∀ m, m < C.1 → (yCp N A).2.1 m = N.2.1 m := fun m hm => cpy_in (by have := k.1; omega)
theorem cp_l (k : zCk C) (N A : zBr) : ∀ m, m < C.2.1 → (yCp N A).2.2.1 m = N.2.2.1 m := fun m hm => cpy_in (by have := k.2.1; omega)
theorem cg_c {H H' G G' : zA} (eh : ∀ m, m < C.2.1 → H' m = H m) (eg : ∀ m, m < C.1 → G' m = G m) (g : zCG C H G) : zCG C H' G' := ⟨fun m hm => by
  rcases g.1 m hm with z | ⟨j, a1, a2, a3⟩
  · exact .inl ((eh m hm).trans z)
  · exact .inr ⟨j, a1, (eh m hm).trans a2, (eg j a1).trans a3⟩, fun j hj => by
  rcases g.2 j hj with z | ⟨m, a1, a2, a3⟩
  · exact .inl ((eg j hj).trans z)
  · exact .inr ⟨m, a1, (eg j hj).trans a2, (eh m a1).trans a3⟩⟩
theorem cp_cg (k : zCk C) {N : zBr} (g : zCG C N.1 N.2.1) (A : zBr) : zCG C (yCp N A).1 (yCp N A).2.1 := cg_c (cp_h k N A) (cp_g k N A) g
theorem cp_lk (k : zCk C) {N : zBr} (l : zLk C N.2.2.1) (A : zBr) : zLk C (yCp N A).2.2.1 := lk_c (cp_l k N A) l
def yCu (C : zCs) (H L : zA) (m : Nat) (w : Int32) (s : Int32 × Int32) (j : Nat) : Int32 × Int32 := if sAll C H (upd L m (nI (1 + j))) w < s.2 then (nI (1 + j), sAll C H (upd L m (nI (1 + j))) w) else s
end ASIDE
theorem zs6_bit : ∀ a b c d e f : Bool, ∀ k, k < 6 → ((zs6 a b c d e f &&& ((1 : Int32) <<< (nI k &&& 31)) = 0) ↔ (match k with | 0 => a | 1 => b | 2 => c | 3 => d | 4 => e | _ => f) = false) := by decide +kernel
section CALM
variable {r : zE} {c0 c1 c2 : Nat} {I : Nat → Int32} {J : Nat → Int64} {Q : Nat → Nat → Int32} {N A : zBr} {Ga Va : Nat → Int32} {t : zH} {C : zCs} {c n d : Nat}
theorem sBe_bit (k : zCk C) {H : zA} {m q : Nat} (hq : q < C.2.1) (w : Int32) : (sBe C H m w &&& ((1 : Int32) <<< (nI q &&& 31)) = 0) ↔ sBes C H q m w = 0 := by
  have k2 := k.2.1
  rw [sBe_st, ySt_6 _ k2, zs6_eq, zs6_bit _ _ _ _ _ _ q (by omega)]
  have e : ∀ b : Bool, (b && decide (q < C.2.1)) = b := fun b => by rw [decide_eq_true hq, Bool.and_true]
  have q6 : q < 6 := by omega
  match q, q6, hq, e with
  | 0, _, hq, e => simp [e]
  | 1, _, hq, e => simp [e]
  | 2, _, hq, e => simp [e]
  | 3, _, hq, e => simp [e]
  | 4, _, hq, e => simp [e]
  | 5, _, hq, e => simp [e]
  | q + 6, h, _, _ => exact absurd h (by omega)
theorem ySw_c {f g : zA} {m q : Nat} (e : ∀ p, p < C.2.1 → f p = g p) (hm : m < C.2.1) (hq : q < C.2.1) : ∀ p, p < C.2.1 → ySw f m q p = ySw g m q p := fun p hp => by
  unfold ySw
  by_cases w : p = m
  · subst w; rw [upd_s, upd_s, e q hq]
  · rw [upd_n w, upd_n w]
    by_cases w2 : p = q
    · subst w2; rw [upd_s, upd_s, e m hm]
    · rw [upd_n w2, upd_n w2, e p hp]
def yGl (C : zCs) (H L : zA) (m q : Nat) (w : Int32) : Int32 := if sIn C H m w = 0 then 0 else if sIn C H q w = 0 then 0 else if sWo C (ySw H m q) L m w (-9) < sWo C H L m w (-9) then if sWo C (ySw H m q) L q w (-9) < sWo C H L q w (-9) then 1 else 0 else 0
theorem yGl_c {H H' L L' : zA} {m q : Nat} (e : ∀ p, p < C.2.1 → H' p = H p) (el : ∀ p, p < C.2.1 → L' p = L p) (hm : m < C.2.1) (hq : q < C.2.1) (w : Int32) : yGl C H' L' m q w = yGl C H L m q w := by
  unfold yGl
  rw [sIn_c (e m hm), sIn_c (e q hq), sWo_c hm (ySw_c e hm hq) el, sWo_c hm e el, sWo_c hq (ySw_c e hm hq) el, sWo_c hq e el]
theorem k_glad (E : zEk r) (k : zCk C) (hC : zCt r t c C) (no : zNo C N) {m q : Nat} (hm : m < C.2.1) (hq : q < C.2.1) (hn : m ≠ q) (w : Int32) : ∃ c2' A', zev r i_X5_wouldBothGladlyChange 0 [some (.ref (r.1 + 0)), some (.int (nI m)), some (.int (nI q)), some (.int w)] [] (zmk r c c c2 I J Q N A Ga Va t) = some (some (.int (yGl C N.1 N.2.2.1 m q w)), (zmk r c c (c2') I J Q N (A') Ga Va t)) := by
  unfold yGl
  by_cases e1 : sIn C N.1 m w = 0
  · refine ⟨c2, A, ?_⟩
    simp only [E_X5_wouldBothGladlyChange_0, mo_0, mg_0_0, mg_0_1, mg_0_2, mg_0_3, mg_0_4, mg_0_5, mg_0_6, mg_0_7, mg_0_8, mg_0_9, mg_0_10, mg_0_11, mo_9, Option.bind_some, if_true, b_in (nBx hC) k hm, e1, zcI_some]
  by_cases e2 : sIn C N.1 q w = 0
  · refine ⟨c2, A, ?_⟩
    simp only [E_X5_wouldBothGladlyChange_0, mo_0, mg_0_0, mg_0_1, mg_0_2, mg_0_3, mg_0_4, mg_0_5, mg_0_6, mg_0_7, mg_0_8, mg_0_9, mg_0_10, mg_0_11, mo_9, Option.bind_some, if_true, if_false, b_in (nBx hC) k hm, b_in (nBx hC) k hq, e1, e2, zcI_some]
  have ax := aBx (r := r) (c0 := c) (c1 := c) (I := I) (J := J) (Q := Q) (N := N) (Ga := Ga) (Va := Va) hC
  obtain ⟨G', e3, cg1⟩ := b_swap ax k (B := yCp N A) (cp_cg k no.1 A) hm hq hn
  have l1 := cp_lk k no.2.1 A
  have v1 := b_wak ax k E (B := (upd (upd (yCp N A).1 q ((yCp N A).1 m)) m ((yCp N A).1 q), G', (yCp N A).2.2.1, (yCp N A).2.2.2)) l1 cg1 hm w
  have v2 := b_wak ax k E (B := (upd (upd (yCp N A).1 q ((yCp N A).1 m)) m ((yCp N A).1 q), G', (yCp N A).2.2.1, (yCp N A).2.2.2)) l1 cg1 hq w
  have s1 : sWo C (upd (upd (yCp N A).1 q ((yCp N A).1 m)) m ((yCp N A).1 q)) (yCp N A).2.2.1 m w (-9) = sWo C (ySw N.1 m q) N.2.2.1 m w (-9) := sWo_c hm (ySw_c (cp_h k N A) hm hq) (cp_l k N A) _ _
  have s2 : sWo C (upd (upd (yCp N A).1 q ((yCp N A).1 m)) m ((yCp N A).1 q)) (yCp N A).2.2.1 q w (-9) = sWo C (ySw N.1 m q) N.2.2.1 q w (-9) := sWo_c hq (ySw_c (cp_h k N A) hm hq) (cp_l k N A) _ _
  dsimp only at v1 v2
  rw [s1] at v1
  rw [s2] at v2
  have n1 := fun A => b_wak (nBx (c0 := c) (c2 := c) (I := I) (J := J) (Q := Q) (A := A) (Ga := Ga) (Va := Va) hC) k E (B := N) no.2.1 no.1 hm w
  have n2 := fun A => b_wak (nBx (c0 := c) (c2 := c) (I := I) (J := J) (Q := Q) (A := A) (Ga := Ga) (Va := Va) hC) k E (B := N) no.2.1 no.1 hq w
  refine ⟨c, (upd (upd (yCp N A).1 q ((yCp N A).1 m)) m ((yCp N A).1 q), G', (yCp N A).2.2.1, (yCp N A).2.2.2), ?_⟩
  simp only [E_X5_wouldBothGladlyChange_0, mo_0, mg_0_0, mg_0_1, mg_0_2, mg_0_3, mg_0_4, mg_0_5, mg_0_6, mg_0_7, mg_0_8, mg_0_9, mg_0_10, mg_0_11, mo_9, mo_14, Option.bind_some, if_true, if_false, b_in (nBx hC) k hm, b_in (nBx hC) k hq, e1, e2, zcI_some, a_copy, zcV_some, e3, v1, v2, n1, n2]
  split
  · split <;> rfl
  · rfl
def yCi (C : zCs) (H L : zA) (w : Int32) (m : Nat) (a : Int32) (i : Nat) : Int32 := if a = -9 then if yGl C H L m (m + 1 + i) w = 0 then a else nI (6 * m + (m + 1 + i)) else a
def yCo (C : zCs) (H L : zA) (w : Int32) (a : Int32) (m : Nat) : Int32 := zfd (yCi C H L w m) 0 (C.2.1 - (m + 1)) a
theorem yCi_stay {H L : zA} {w : Int32} {m : Nat} {a : Int32} (ha : ¬ a = -9) : ∀ {q j : Nat}, zfd (yCi C H L w m) j q a = a
  | 0, _ => rfl
  | q + 1, j => by
    rw [zfd, show yCi C H L w m a j = a from if_neg ha]
    exact yCi_stay ha
theorem yCo_stay {H L : zA} {w : Int32} {a : Int32} (ha : ¬ a = -9) : ∀ {q j : Nat}, zfd (yCo C H L w) j q a = a
  | 0, _ => rfl
  | q + 1, j => by
    rw [zfd, show yCo C H L w a j = a from yCi_stay ha]
    exact yCo_stay ha
theorem k_pair (E : zEk r) (k : zCk C) (hC : zCt r t c C) (no : zNo C N) (w : Int32) : ∃ c2' A', zev r i_X5_firstGladPair 0 [some (.ref (r.1 + 0)), some (.int w), none, none] [] (zmk r c c c2 I J Q N A Ga Va t) = some (some (.int (zfd (yCo C N.1 N.2.2.1 w) 0 C.2.1 (-9))), (zmk r c c (c2') I J Q N (A') Ga Va t)) := by
  have k2 := k.2.1
  rw [E_X5_firstGladPair_0]
  refine zloopS (fun j (s : Nat × zBr) => zfd (yCo C N.1 N.2.2.1 w) 0 j (-9) = -9) (fun e => ∃ c2' A', e = some (some (.int (zfd (yCo C N.1 N.2.2.1 w) 0 C.2.1 (-9))), (zmk r c c (c2') I J Q N (A') Ga Va t))) (fun j (s : Nat × zBr) => zev r i_X5_firstGladPair 2 [some (.ref (r.1 + 0)), some (.int w), some (.int (nI j)), none] [] (zmk r c c (s.1) I J Q N (s.2) Ga Va t)) C.2.1 (fun m s hm p => ?_) (fun s p => ⟨s.1, s.2, ?_⟩) (c2, A) rfl
  · have tot : zfd (yCo C N.1 N.2.2.1 w) 0 C.2.1 (-9) = zfd (yCo C N.1 N.2.2.1 w) (m + 1) (C.2.1 - (m + 1)) (yCo C N.1 N.2.2.1 w (-9) m) := by
      rw [show C.2.1 = m + 1 + (C.2.1 - (m + 1)) by omega, zfd_cat, zfd_succ, p, Nat.zero_add, Nat.zero_add]
      congr 1
      omega
    have inner := zloopS (fun i (s : Nat × zBr) => zfd (yCi C N.1 N.2.2.1 w m) 0 i (-9) = -9) (fun e => (∃ c2' A', e = some (some (.int (zfd (yCo C N.1 N.2.2.1 w) 0 C.2.1 (-9))), (zmk r c c (c2') I J Q N (A') Ga Va t))) ∨ ∃ s' : Nat × zBr, e = zev r i_X5_firstGladPair 2 [some (.ref (r.1 + 0)), some (.int w), some (.int (nI (m + 1))), none] [] (zmk r c c (s'.1) I J Q N (s'.2) Ga Va t) ∧ yCo C N.1 N.2.2.1 w (-9) m = -9) (fun i (s : Nat × zBr) => zev r i_X5_firstGladPair 17 [some (.ref (r.1 + 0)), some (.int w), some (.int (nI m)), some (.int (nI (m + 1 + i)))] [] (zmk r c c (s.1) I J Q N (s.2) Ga Va t)) (C.2.1 - (m + 1)) (fun i s hi p => by
      obtain ⟨c3, A3, e3⟩ := k_glad (c2 := s.1) (A := s.2) (I := I) (J := J) (Q := Q) (Ga := Ga) (Va := Va) E k hC no (m := m) (q := m + 1 + i) hm (by omega) (by omega) w
      by_cases z : yGl C N.1 N.2.2.1 m (m + 1 + i) w = 0
      · refine .inr ⟨(c3, A3), ?_, ?_⟩
        · refine (E_X5_firstGladPair_17 ..).trans ?_
          simp only [mo_0, mg_0_0, mg_0_1, mg_0_2, mg_0_3, mg_0_4, mg_0_5, mg_0_6, mg_0_7, mg_0_8, mg_0_9, mg_0_10, mg_0_11, (hC ..).2.2.1, Option.bind_some, if_pos (nI_lt6 k (show m + 1 + i < C.2.1 by omega)), if_true, e3, z, zcI_some, nI_1, show m + 1 + i + 1 = m + 1 + (i + 1) by omega]
        · rw [zfd_succ, Nat.zero_add, p]
          unfold yCi
          rw [if_pos rfl, if_pos z]
      · refine .inl (.inl ⟨c3, A3, ?_⟩)
        have v : zfd (yCo C N.1 N.2.2.1 w) 0 C.2.1 (-9) = nI (6 * m + (m + 1 + i)) := by
          have nn : ¬ nI (6 * m + (m + 1 + i)) = -9 := nI_n9 (by omega)
          have : yCo C N.1 N.2.2.1 w (-9) m = nI (6 * m + (m + 1 + i)) := by
            unfold yCo
            rw [show C.2.1 - (m + 1) = i + 1 + (C.2.1 - (m + 1) - (i + 1)) by omega, zfd_cat, zfd_succ, p, Nat.zero_add, Nat.zero_add]
            rw [show yCi C N.1 N.2.2.1 w m (-9) i = nI (6 * m + (m + 1 + i)) by unfold yCi; rw [if_pos rfl, if_neg z]]
            exact yCi_stay nn
          rw [tot, this]
          exact yCo_stay nn
        refine (E_X5_firstGladPair_17 ..).trans ?_
        have e6 : (6 : Int32) * nI m + nI (m + 1 + i) = nI (6 * m + (m + 1 + i)) := by rw [show (6 : Int32) = nI 6 from rfl, pk_mul, nI_add]
        simp only [mo_0, mg_0_0, mg_0_1, mg_0_2, mg_0_3, mg_0_4, mg_0_5, mg_0_6, mg_0_7, mg_0_8, mg_0_9, mg_0_10, mg_0_11, (hC ..).2.2.1, Option.bind_some, if_pos (nI_lt6 k (show m + 1 + i < C.2.1 by omega)), if_true, e3, z, if_false, zcI_some, e6, v]) (fun s p => by
      refine .inr ⟨s, ?_, p⟩
      refine (E_X5_firstGladPair_17 ..).trans ?_
      rw [show m + 1 + (C.2.1 - (m + 1)) = C.2.1 by omega]
      simp only [mo_0, mg_0_0, mg_0_1, mg_0_2, mg_0_3, mg_0_4, mg_0_5, mg_0_6, mg_0_7, mg_0_8, mg_0_9, mg_0_10, mg_0_11, (hC ..).2.2.1, Option.bind_some, if_neg (nI_nlt6 k), nI_1]) s rfl
    have start : zev r i_X5_firstGladPair 2 [some (.ref (r.1 + 0)), some (.int w), some (.int (nI m)), none] [] (zmk r c c (s.1) I J Q N (s.2) Ga Va t) = zev r i_X5_firstGladPair 17 [some (.ref (r.1 + 0)), some (.int w), some (.int (nI m)), some (.int (nI (m + 1 + 0)))] [] (zmk r c c (s.1) I J Q N (s.2) Ga Va t) := by
      refine (E_X5_firstGladPair_2 ..).trans ?_
      simp only [mo_0, mg_0_0, mg_0_1, mg_0_2, mg_0_3, mg_0_4, mg_0_5, mg_0_6, mg_0_7, mg_0_8, mg_0_9, mg_0_10, mg_0_11, (hC ..).2.2.1, Option.bind_some, if_pos (nI_lt6 k hm), nI_1]
    rw [start]
    rcases inner with q | ⟨s', e, q⟩
    · exact .inl q
    · refine .inr ⟨s', e, ?_⟩
      rw [zfd_succ, p, Nat.zero_add]
      exact q
  · refine (E_X5_firstGladPair_2 ..).trans ?_
    simp only [mo_0, mg_0_0, mg_0_1, mg_0_2, mg_0_3, mg_0_4, mg_0_5, mg_0_6, mg_0_7, mg_0_8, mg_0_9, mg_0_10, mg_0_11, (hC ..).2.2.1, Option.bind_some, if_neg (nI_nlt6 k), p]
theorem sWo_but (k : zCk C) {H L : zA} {m q : Nat} (hq : q < C.2.1) (hn : q ≠ m) (w : Int32) : sWo C (upd H q (-9)) L m w (-9) = sWo C H L m w (nI q) := by
  have k2 := k.2.1
  have e1 : sIn C (upd H q (-9)) m w = sIn C H m w := sIn_c (upd_n (Ne.symm hn)) w
  have e2 : sSu C (upd H q (-9)) L m w (-9) = sSu C H L m w (nI q) := by
    unfold sSu
    rw [show upd H q (-9) m = H m from upd_n (Ne.symm hn)]
    refine zfd_congr fun s p _ hp => ?_
    rw [if_neg (nI_n9 (by omega))]
    by_cases z : p = q
    · subst z
      rw [if_pos rfl]
      have : sBes C (upd H p (-9)) p m w = 0 := by
        unfold sBes sIn
        rw [upd_s]
        simp
      rw [if_pos this]
    · rw [if_neg (fun y => z ((nI_eq (by omega) (by omega)).mp y)), sBes_c (upd_n z) (upd_n (Ne.symm hn))]
  unfold sWo
  rw [e1, e2]
def yBy (C : zCs) (H L : zA) (m : Nat) (w : Int32) (s : Int32 × Int32) (q : Nat) : Int32 × Int32 := if sBes C H q m w = 0 then s else if s.2 < sWo C H L m w (-9) - sWo C H L m w (nI q) then (nI q, sWo C H L m w (-9) - sWo C H L m w (nI q)) else s
theorem sBes_self {H : zA} {m : Nat} {w : Int32} : sBes C H m m w = 0 := by
  unfold sBes
  rw [Int32.sub_self]
  simp
theorem k_without (E : zEk r) (k : zCk C) (hC : zCt r t c C) (no : zNo C N) {m q : Nat} (hm : m < C.2.1) (hq : q < C.2.1) (hn : q ≠ m) (w : Int32) : ∃ A', zev r i_X5_wakingsWithout 0 [some (.ref (r.1 + 0)), some (.int (nI q)), some (.int (nI m)), some (.int w)] [] (zmk r c c c2 I J Q N A Ga Va t) = some (some (.int (sWo C N.1 N.2.2.1 m w (nI q))), (zmk r c c (c) I J Q N (A') Ga Va t)) := by
  have ax := aBx (r := r) (c0 := c) (c1 := c) (I := I) (J := J) (Q := Q) (N := N) (Ga := Ga) (Va := Va) hC
  obtain ⟨G', e3, cg1⟩ := b_move ax k (B := yCp N A) (cp_cg k no.1 A) hq (h := -9) (.inl (.inl rfl))
  have v1 := b_wak ax k E (B := (upd (yCp N A).1 q (-9), G', (yCp N A).2.2.1, (yCp N A).2.2.2)) (cp_lk k no.2.1 A) cg1 hm w
  dsimp only at v1
  rw [sWo_but k hq hn, sWo_c hm (cp_h k N A) (cp_l k N A)] at v1
  refine ⟨(upd (yCp N A).1 q (-9), G', (yCp N A).2.2.1, (yCp N A).2.2.2), ?_⟩
  simp only [E_X5_wakingsWithout_0, mo_0, mg_0_0, mg_0_1, mg_0_2, mg_0_3, mg_0_4, mg_0_5, mg_0_6, mg_0_7, mg_0_8, mg_0_9, mg_0_10, mg_0_11, mo_14, Option.bind_some, if_true, a_copy, zcV_some, e3, v1, zcI_some]
theorem yCu_c {H H' L L' : zA} (e : ∀ p, p < C.2.1 → H' p = H p) (el : ∀ p, p < C.2.1 → L' p = L p) (m : Nat) (w : Int32) (s : Int32 × Int32) (j : Nat) : yCu C H' L' m w s j = yCu C H L m w s j := by
  unfold yCu
  rw [sAll_c e (fun p hp => show upd L' m (nI (1 + j)) p = upd L m (nI (1 + j)) p by
    by_cases z : p = m
    · subst z; rw [upd_s, upd_s]
    · rw [upd_n z, upd_n z, el p hp])]
theorem yBy_c {H H' L L' : zA} (e : ∀ p, p < C.2.1 → H' p = H p) (el : ∀ p, p < C.2.1 → L' p = L p) {m : Nat} (hm : m < C.2.1) (w : Int32) (s : Int32 × Int32) {q : Nat} (hq : q < C.2.1) : yBy C H' L' m w s q = yBy C H L m w s q := by
  unfold yBy
  rw [sBes_c (e q hq) (e m hm), sWo_c hm e el, sWo_c hm e el]
theorem yCo_c {H H' L L' : zA} (e : ∀ p, p < C.2.1 → H' p = H p) (el : ∀ p, p < C.2.1 → L' p = L p) (w : Int32) (a : Int32) : zfd (yCo C H' L' w) 0 C.2.1 a = zfd (yCo C H L w) 0 C.2.1 a := zfd_congr fun s m _ hm => by
  unfold yCo
  exact zfd_congr fun s i _ hi => by
    unfold yCi
    rw [yGl_c e el (by omega) (by omega)]
end CALM
section CALLS7
variable {r : zE} {C : zCs} {d : Nat} {M : Nat → zDk} {K : Nat → Option (Nat × (Nat → zDk))} {W Tx : Nat → Option (List Int32)} {ta : Int32} {tu tl : Int64} {Ga Va : zA} {n : Nat} {h : zH}
theorem ck_gain (E : zEk r) {m q w : Nat} (hm : m < C.2.1) (hq : q < C.2.1) (u : m ≠ q) (hw : w < 3) (st : zSt r C d M K W Tx ta tu tl Ga Va n h) : ∃ h', zev r i_X5_gain 0 [some (.ref (r.1 + 0)), some (.int (nI m)), some (.int (nI q)), some (.int (nI w))] [] h = some (some (.int (100 + sAll C (M d).1 (M d).2.1 (nI w) - sAll C (ySw (M d).1 m q) (M d).2.1 (nI w))), h') ∧ zSt r C d M K W Tx ta tu tl Ga Va n h' := by
  obtain ⟨c, c2, I, J, Q, N, A, t, rfl, iv, t1, t2⟩ := st
  obtain ⟨k, hC, no, de, -⟩ := id iv
  have k2 := k.2.1
  have e : zhk C.2.1 (nI m) = 1 := zhk_in hm (by omega)
  have f : zhk C.2.1 (nI q) = 1 := zhk_in hq (by omega)
  have g : zhk 3 (nI w) = 1 := zhk_in hw (by decide)
  have u1 : ¬ nI m = nI q := fun z => u ((nI_eq (by omega) (by omega)).mp z)
  have ax := aBx (r := r) (c0 := c) (c1 := c) (I := I) (J := J) (Q := Q) (N := N) (Ga := Ga) (Va := Va) hC
  obtain ⟨G', e1, cg1⟩ := b_swap ax k (B := yCp N A) (cp_cg k no.1 A) hm hq u
  have e2 := b_all ax k E (B := (upd (upd (yCp N A).1 q ((yCp N A).1 m)) m ((yCp N A).1 q), G', (yCp N A).2.2.1, (yCp N A).2.2.2)) (cp_lk k no.2.1 A) cg1 (nI w)
  have e3 := b_all (nBx (c0 := c) (c2 := c) (I := I) (J := J) (Q := Q) (A := (upd (upd (yCp N A).1 q ((yCp N A).1 m)) m ((yCp N A).1 q), G', (yCp N A).2.2.1, (yCp N A).2.2.2)) (Ga := Ga) (Va := Va) hC) k E (B := N) no.2.1 no.1 (nI w)
  have e4 : sAll C (upd (upd (yCp N A).1 q ((yCp N A).1 m)) m ((yCp N A).1 q)) (yCp N A).2.2.1 (nI w) = sAll C (ySw (M d).1 m q) (M d).2.1 (nI w) := sAll_c (ySw_c (f := (yCp N A).1) (g := (M d).1) (fun p hp => (cp_h k N A p hp).trans (de_h de p hp)) hm hq) (fun p hp => (cp_l k N A p hp).trans (de_l de p hp)) _
  dsimp only at e2
  rw [e4] at e2
  rw [sAll_c (de_h de) (de_l de)] at e3
  refine ⟨(zmk r c c (c) I J Q N ((upd (upd (yCp N A).1 q ((yCp N A).1 m)) m ((yCp N A).1 q), G', (yCp N A).2.2.1, (yCp N A).2.2.2)) Ga Va t), ?_, st_mk iv t1 t2⟩
  simp only [E_X5_gain_0, mo_0, mg_0_0, mg_0_1, mg_0_2, mg_0_3, mg_0_4, mg_0_5, mg_0_6, mg_0_7, mg_0_8, mg_0_9, mg_0_10, mg_0_11, mo_9, mo_14, Option.bind_some, (hC ..).1, if_true, cr_man (hC ..), e, f, u1, k_when, g, i01, if_false, zcI_some, a_copy, zcV_some, e1, e3, e2]
theorem ck_cut (E : zEk r) {m w : Nat} (hm : m < C.2.1) (hw : w < 3) (st : zSt r C d M K W Tx ta tu tl Ga Va n h) : ∃ h', zev r i_X5_cut 0 [some (.ref (r.1 + 0)), some (.int (nI m)), some (.int (nI w)), none, none, none, none] [] h = some (some (.int (zfd (yCu C (M d).1 (M d).2.1 m (nI w)) 0 9 (-9, 1000000)).1), h') ∧ zSt r C d M K W Tx ((zfd (yCu C (M d).1 (M d).2.1 m (nI w)) 0 9 (-9, 1000000)).2) tu tl Ga Va n h' := by
  obtain ⟨c, c2, I, J, Q, N, A, t, rfl, iv, t1, t2⟩ := st
  obtain ⟨k, hC, no, de, -⟩ := id iv
  have k2 := k.2.1
  have e : zhk C.2.1 (nI m) = 1 := zhk_in hm (by omega)
  have g : zhk 3 (nI w) = 1 := zhk_in hw (by decide)
  have h6 : m < 6 := by omega
  rw [← zfd_congr (f := yCu C N.1 N.2.2.1 m (nI w)) (g := yCu C (M d).1 (M d).2.1 m (nI w)) (fun s i _ _ => yCu_c (de_h de) (de_l de) m (nI w) s i)]
  have ax := aBx (r := r) (c0 := c) (c1 := c) (I := I) (J := J) (Q := Q) (N := N) (Ga := Ga) (Va := Va) hC
  have lk : ∀ v, v < 10 → ∀ L : zA, (∀ p, p < C.2.1 → p ≠ m → L p = N.2.2.1 p) → zLk C (upd L m (nI v)) := fun v hv L hL p hp => by
    by_cases z : p = m
    · subst z; rw [upd_s]; exact ⟨v, hv, rfl⟩
    · rw [upd_n z, hL p hp z]; exact no.2.1 p hp
  have much : ∀ v (H L : zA), (∀ p, p < C.2.1 → H p = N.1 p) → (∀ p, p < C.2.1 → p ≠ m → L p = N.2.2.1 p) → sAll C H (upd L m (nI v)) (nI w) = sAll C N.1 (upd N.2.2.1 m (nI v)) (nI w) := fun v H L hH hL => sAll_c hH (fun p hp => by
    by_cases z : p = m
    · subst z; rw [upd_s, upd_s]
    · rw [upd_n z, upd_n z, hL p hp z]) _
  have e0 : zev r i_X5_cut 0 [some (.ref (r.1 + 0)), some (.int (nI m)), some (.int (nI w)), none, none, none, none] [] (zmk r c c c2 I J Q N A Ga Va t) = zev r i_X5_cut 42 [some (.ref (r.1 + 0)), some (.int (nI m)), some (.int (nI w)), some (.int (-9)), some (.int 1000000), some (.int 1), none] [] (zmk r c c (c) I J Q N (yCp N A) Ga Va t) := by
    simp only [E_X5_cut_0, mo_0, mg_0_0, mg_0_1, mg_0_2, mg_0_3, mg_0_4, mg_0_5, mg_0_6, mg_0_7, mg_0_8, mg_0_9, mg_0_10, mg_0_11, mo_14, Option.bind_some, (hC ..).1, if_true, cr_man (hC ..), e, k_when, g, i01, if_false, zcI_some, a_copy, zcV_some]
  have e1 : ∃ A', zev r i_X5_cut 42 [some (.ref (r.1 + 0)), some (.int (nI m)), some (.int (nI w)), some (.int (-9)), some (.int 1000000), some (.int 1), none] [] (zmk r c c (c) I J Q N (yCp N A) Ga Va t) = some (some (.int (zfd (yCu C N.1 N.2.2.1 m (nI w)) 0 9 (-9, 1000000)).1), (zmk r c c (c) (va_up I 0 (zfd (yCu C N.1 N.2.2.1 m (nI w)) 0 9 (-9, 1000000)).2) J Q N (A') Ga Va t)) := by
    refine zloopS (fun j (s : (Int32 × Int32) × zA) => s.1 = zfd (yCu C N.1 N.2.2.1 m (nI w)) 0 j (-9, 1000000) ∧ ∀ p, p < C.2.1 → p ≠ m → s.2 p = N.2.2.1 p) (fun z => ∃ A', z = some (some (.int (zfd (yCu C N.1 N.2.2.1 m (nI w)) 0 9 (-9, 1000000)).1), (zmk r c c (c) (va_up I 0 (zfd (yCu C N.1 N.2.2.1 m (nI w)) 0 9 (-9, 1000000)).2) J Q N (A') Ga Va t))) (fun j (s : (Int32 × Int32) × zA) => zev r i_X5_cut 42 [some (.ref (r.1 + 0)), some (.int (nI m)), some (.int (nI w)), some (.int s.1.1), some (.int s.1.2), some (.int (nI (1 + j))), none] [] (zmk r c c (c) I J Q N (((yCp N A).1, (yCp N A).2.1, s.2, (yCp N A).2.2.2)) Ga Va t)) 9 (fun j s hj p => .inr ?_) (fun s p => ?_) ((-9, 1000000), (yCp N A).2.2.1) ⟨rfl, fun p hp _ => cp_l k N A p hp⟩
    · have ea := b_all ax k E (B := ((yCp N A).1, (yCp N A).2.1, upd s.2 m (nI (1 + j)), (yCp N A).2.2.2)) (lk (1 + j) (by omega) _ p.2) (cp_cg k no.1 A) (nI w)
      dsimp only at ea
      rw [much (1 + j) _ _ (cp_h k N A) p.2] at ea
      refine ⟨(yCu C N.1 N.2.2.1 m (nI w) s.1 j, upd s.2 m (nI (1 + j))), ?_, ?_, fun p' hp hn => (upd_n hn).trans (p.2 p' hp hn)⟩
      · refine (E_X5_cut_42 ..).trans ?_
        simp only [if_neg (show ¬ (9 : Int32) < nI (1 + j) from nI_nlt (b := 1 + j) (a := 9) (by omega) (by decide)), mo_0, mg_0_0, mg_0_1, mg_0_2, mg_0_3, mg_0_4, mg_0_5, mg_0_6, mg_0_7, mg_0_8, mg_0_9, mg_0_10, mg_0_11, mg_14_3, Option.bind_some, mw_17 h6, mo_14, if_true, ea, zcI_some, nI_1, show 1 + j + 1 = 1 + (j + 1) by omega, yCu]
        split <;> rfl
      · dsimp only
        rw [zfd_succ, Nat.zero_add, p.1]
    · refine ⟨((yCp N A).1, (yCp N A).2.1, s.2, (yCp N A).2.2.2), (E_X5_cut_42 ..).trans ?_⟩
      simp only [if_pos (show (9 : Int32) < nI (1 + 9) by decide), mo_0, mg_0_0, mg_0_1, mg_0_2, mg_0_3, mg_0_4, mg_0_5, mg_0_6, mg_0_7, mg_0_8, mg_0_9, mg_0_10, mg_0_11, if_true, k_tell, zcV_some, p.1]
  obtain ⟨A', e1⟩ := e1
  exact ⟨_, e0.trans e1, st_mk (iv_told _ iv) t1 t2⟩
theorem ck_calm (E : zEk r) {w : Nat} (hw : w < 3) (st : zSt r C d M K W Tx ta tu tl Ga Va n h) : ∃ h', zev r i_X5_calm 0 [some (.ref (r.1 + 0)), some (.int (nI w)), none] [] h = some (some (.int (if zfd (yCo C (M d).1 (M d).2.1 (nI w)) 0 C.2.1 (-9) = -9 then 1 else 0)), h') ∧ zSt r C d M K W Tx (zfd (yCo C (M d).1 (M d).2.1 (nI w)) 0 C.2.1 (-9)) tu tl Ga Va n h' := by
  obtain ⟨c, c2, I, J, Q, N, A, t, rfl, iv, t1, t2⟩ := st
  obtain ⟨k, hC, no, de, -⟩ := id iv
  have k2 := k.2.1
  have g : zhk 3 (nI w) = 1 := zhk_in hw (by decide)
  rw [← yCo_c (de_h de) (de_l de)]
  obtain ⟨c3, A3, e1⟩ := k_pair (c2 := c2) (A := A) (I := I) (J := J) (Q := Q) (Ga := Ga) (Va := Va) E k hC no (nI w)
  generalize zfd (yCo C N.1 N.2.2.1 (nI w)) 0 C.2.1 (-9) = v at e1
  refine ⟨(zmk r c c (c3) (va_up I 0 v) J Q N (A3) Ga Va t), ?_, st_mk (iv_told _ iv) t1 t2⟩
  simp only [E_X5_calm_0, k_when, g, i01, if_false, zcI_some, mo_0, mg_0_0, mg_0_1, mg_0_2, mg_0_3, mg_0_4, mg_0_5, mg_0_6, mg_0_7, mg_0_8, mg_0_9, mg_0_10, mg_0_11, if_true, e1, k_tell, zcV_some]
  split <;> rfl
/-- by whom one is woken most, by how much -/
def yBq (C : zCs) (H L : zA) (m : Nat) (w : Int32) : Int32 × Int32 := if sIn C H m w = 0 then (-9, -1) else zfd (yBy C H L m w) 0 C.2.1 (-9, -1)
theorem ck_by (E : zEk r) {m w : Nat} (hm : m < C.2.1) (hw : w < 3) (st : zSt r C d M K W Tx ta tu tl Ga Va n h) : ∃ h', zev r i_X5_by 0 [some (.ref (r.1 + 0)), some (.int (nI m)), some (.int (nI w)), none, none, none, none, none] [] h = some (some (.int (yBq C (M d).1 (M d).2.1 m (nI w)).1), h') ∧ zSt r C d M K W Tx (if (yBq C (M d).1 (M d).2.1 m (nI w)).1 = -9 then ta else (yBq C (M d).1 (M d).2.1 m (nI w)).2) tu tl Ga Va n h' := by
  obtain ⟨c, c2, I, J, Q, N, A, t, rfl, iv, t1, t2⟩ := st
  obtain ⟨k, hC, no, de, -⟩ := id iv
  have k2 := k.2.1
  have e : zhk C.2.1 (nI m) = 1 := zhk_in hm (by omega)
  have g : zhk 3 (nI w) = 1 := zhk_in hw (by decide)
  have eq : yBq C (M d).1 (M d).2.1 m (nI w) = yBq C N.1 N.2.2.1 m (nI w) := by
    unfold yBq
    rw [sIn_c (de_h de m hm), zfd_congr (f := yBy C (M d).1 (M d).2.1 m (nI w)) (g := yBy C N.1 N.2.2.1 m (nI w)) (fun s q _ hq => (yBy_c (de_h de) (de_l de) hm (nI w) s (by omega)).symm)]
  rw [eq]
  by_cases z : sIn C N.1 m (nI w) = 0
  · have : yBq C N.1 N.2.2.1 m (nI w) = (-9, -1) := if_pos z
    rw [this]
    refine ⟨(zmk r c c c2 I J Q N A Ga Va t), ?_, ?_⟩
    · simp only [E_X5_by_0, mo_0, mg_0_0, mg_0_1, mg_0_2, mg_0_3, mg_0_4, mg_0_5, mg_0_6, mg_0_7, mg_0_8, mg_0_9, mg_0_10, mg_0_11, mo_9, Option.bind_some, (hC ..).1, if_true, cr_man (hC ..), e, k_when, g, i01, if_false, b_in (nBx hC) k hm, z, zcI_some]
    · rw [if_pos rfl]; exact st_mk iv t1 t2
  have e1 : ∃ c2' A', zev r i_X5_by 0 [some (.ref (r.1 + 0)), some (.int (nI m)), some (.int (nI w)), none, none, none, none, none] [] (zmk r c c c2 I J Q N A Ga Va t) = some (some (.int (zfd (yBy C N.1 N.2.2.1 m (nI w)) 0 C.2.1 (-9, -1)).1), if (zfd (yBy C N.1 N.2.2.1 m (nI w)) 0 C.2.1 (-9, -1)).1 = -9 then (zmk r c c (c2') I J Q N (A') Ga Va t) else (zmk r c c (c2') (va_up I 0 (zfd (yBy C N.1 N.2.2.1 m (nI w)) 0 C.2.1 (-9, -1)).2) J Q N (A') Ga Va t)) := by
    have nb := b_neigh (nBx (c0 := c) (c2 := c2) (I := I) (J := J) (Q := Q) (A := A) (Ga := Ga) (Va := Va) hC) k (B := N) no.1 hm (nI w)
    simp only [E_X5_by_0, mo_0, mg_0_0, mg_0_1, mg_0_2, mg_0_3, mg_0_4, mg_0_5, mg_0_6, mg_0_7, mg_0_8, mg_0_9, mg_0_10, mg_0_11, mo_9, Option.bind_some, (hC ..).1, if_true, cr_man (hC ..), e, k_when, g, i01, if_false, b_in (nBx hC) k hm, z, zcI_some, nb]
    refine zloopS (fun j (s : (Int32 × Int32) × (Nat × zBr)) => s.1 = zfd (yBy C N.1 N.2.2.1 m (nI w)) 0 j (-9, -1)) (fun e => ∃ c2' A', e = some (some (.int (zfd (yBy C N.1 N.2.2.1 m (nI w)) 0 C.2.1 (-9, -1)).1), if (zfd (yBy C N.1 N.2.2.1 m (nI w)) 0 C.2.1 (-9, -1)).1 = -9 then (zmk r c c (c2') I J Q N (A') Ga Va t) else (zmk r c c (c2') (va_up I 0 (zfd (yBy C N.1 N.2.2.1 m (nI w)) 0 C.2.1 (-9, -1)).2) J Q N (A') Ga Va t))) (fun j (s : (Int32 × Int32) × (Nat × zBr)) => zev r i_X5_by 55 [some (.ref (r.1 + 0)), some (.int (nI m)), some (.int (nI w)), some (.int (sBe C N.1 m (nI w))), some (.int s.1.1), some (.int s.1.2), some (.int (nI j)), none] [] (zmk r c c (s.2.1) I J Q N (s.2.2) Ga Va t)) C.2.1 (fun j s hj p => .inr ?_) (fun s p => ⟨s.2.1, s.2.2, ?_⟩) ((-9, -1), (c2, A)) rfl
    · by_cases z1 : sBes C N.1 j m (nI w) = 0
      · refine ⟨s, ?_, ?_⟩
        · refine (E_X5_by_55 ..).trans ?_
          simp only [mo_0, mg_0_0, mg_0_1, mg_0_2, mg_0_3, mg_0_4, mg_0_5, mg_0_6, mg_0_7, mg_0_8, mg_0_9, mg_0_10, mg_0_11, (hC ..).2.2.1, Option.bind_some, if_pos (nI_lt6 k hj), sBe_bit k hj, z1, if_true, nI_1]
        · rw [zfd_succ, Nat.zero_add, ← p]
          unfold yBy
          rw [if_pos z1]
      · have hn : j ≠ m := fun y => z1 (by subst y; exact sBes_self)
        obtain ⟨A', e4⟩ := k_without (c2 := s.2.1) (A := s.2.2) (I := I) (J := J) (Q := Q) (Ga := Ga) (Va := Va) E k hC no (m := m) (q := j) hm hj hn (nI w)
        have nw := b_wak (nBx (c0 := c) (c2 := s.2.1) (I := I) (J := J) (Q := Q) (A := s.2.2) (Ga := Ga) (Va := Va) hC) k E (B := N) no.2.1 no.1 hm (nI w)
        refine ⟨(yBy C N.1 N.2.2.1 m (nI w) s.1 j, (c, A')), ?_, ?_⟩
        · refine (E_X5_by_55 ..).trans ?_
          unfold yBy
          simp only [mo_0, mg_0_0, mg_0_1, mg_0_2, mg_0_3, mg_0_4, mg_0_5, mg_0_6, mg_0_7, mg_0_8, mg_0_9, mg_0_10, mg_0_11, mo_9, (hC ..).2.2.1, Option.bind_some, if_pos (nI_lt6 k hj), sBe_bit k hj, z1, if_true, if_false, nw, e4, zcI_some, nI_1]
          split <;> rfl
        · dsimp only
          rw [zfd_succ, Nat.zero_add, ← p]
    · refine (E_X5_by_55 ..).trans ?_
      simp only [mo_0, mg_0_0, mg_0_1, mg_0_2, mg_0_3, mg_0_4, mg_0_5, mg_0_6, mg_0_7, mg_0_8, mg_0_9, mg_0_10, mg_0_11, (hC ..).2.2.1, Option.bind_some, if_neg (nI_nlt6 k), if_true, k_tell, zcV_some, p]
      split <;> rfl
  obtain ⟨c3, A3, e1⟩ := e1
  have e9 : yBq C N.1 N.2.2.1 m (nI w) = zfd (yBy C N.1 N.2.2.1 m (nI w)) 0 C.2.1 (-9, -1) := if_neg z
  rw [e9]
  generalize zfd (yBy C N.1 N.2.2.1 m (nI w)) 0 C.2.1 (-9, -1) = T at e1
  by_cases z9 : T.1 = -9
  · rw [if_pos z9] at e1 ⊢
    exact ⟨_, e1, st_mk iv t1 t2⟩
  · rw [if_neg z9] at e1 ⊢
    exact ⟨_, e1, st_mk (iv_told _ iv) t1 t2⟩
end CALLS7
