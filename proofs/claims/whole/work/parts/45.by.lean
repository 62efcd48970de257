/-! BY: both alike -/
section BY
variable {r : zE} {c0 c1 c2 : Nat} {I : Nat → Int32} {J : Nat → Int64} {Q : Nat → Nat → Int32} {N A : zBr} {U : Nat → Int32} {V : Nat → Int64} {X : Nat → Nat → Int32} {S : zSs} {t : zH} {C : zCs} {c n d : Nat}
theorem sWo_but (k : zCk C) {H L : zA} {m q : Nat} (hq : q < C.2.1) (hn : q ≠ m) (w : Int32) : sWo C (upd H q (-9)) L m w (-9) = sWo C H L m w (nI q) := by
  have k2 := k.2.1
  have e1 : sIn C (upd H q (-9)) m w = sIn C H m w := sIn_c (upd_n (Ne.symm hn)) w
  have e2 : sSu C (upd H q (-9)) L m w (-9) = sSu C H L m w (nI q) := by
    unfold sSu
    rw [show upd H q (-9) m = H m from upd_n (Ne.symm hn)]
    refine zfd_congr fun s p _ hp => ?_
    rw [if_neg (nI_n9 (by omega))]
    by_cases z : p = q
    · subst z
      rw [if_pos rfl]
      have : sBes C (upd H p (-9)) p m w = 0 := by
        unfold sBes sIn
        rw [upd_s]
        simp
      rw [if_pos this]
    · rw [if_neg (fun y => z ((nI_eq (by omega) (by omega)).mp y)), sBes_c (upd_n z) (upd_n (Ne.symm hn))]
  unfold sWo
  rw [e1, e2]
/-- by whom: the step -/
def yBy (C : zCs) (H L : zA) (m : Nat) (w : Int32) (s : Int32 × Int32) (q : Nat) : Int32 × Int32 := if sBes C H q m w = 0 then s else if s.2 < sWo C H L m w (-9) - sWo C H L m w (nI q) then (nI q, sWo C H L m w (-9) - sWo C H L m w (nI q)) else s
theorem sBes_self {H : zA} {m : Nat} {w : Int32} : sBes C H m m w = 0 := by
  unfold sBes
  rw [Int32.sub_self]
  simp
theorem k_without (E : zEk r) (k : zCk C) (hC : zCt r t c C) (no : zNo C N X) {m q : Nat} (hm : m < C.2.1) (hq : q < C.2.1) (hn : q ≠ m) (w : Int32) : ∃ A', zev r i_X5_wakingsWithout 0 [some (.ref (r.1 + 0)), some (.int (nI q)), some (.int (nI m)), some (.int w)] [] (zmk r c c c2 I J Q N A U V X S t) = some (some (.int (sWo C N.1 N.2.2.1 m w (nI q))), (zmk r c c (c) I J Q N (A') U V X S t)) := by
  have ax := aBx (r := r) (c0 := c) (c1 := c) (I := I) (J := J) (Q := Q) (N := N) (U := U) (V := V) (X := X) (S := S) hC
  obtain ⟨G', e3, cg1⟩ := b_move ax k (B := yCp N A) (cp_cg k no.1 A) hq (h := -9) (.inl (.inl rfl))
  have v1 := b_wak ax k E (B := (upd (yCp N A).1 q (-9), G', (yCp N A).2.2.1, (yCp N A).2.2.2)) (cp_lk k no.2.1 A) cg1 hm w
  dsimp only at v1
  rw [sWo_but k hq hn, sWo_c hm (cp_h k N A) (cp_l k N A)] at v1
  refine ⟨(upd (yCp N A).1 q (-9), G', (yCp N A).2.2.1, (yCp N A).2.2.2), ?_⟩
  simp only [E_X5_wakingsWithout_0, mo_0, mg_0_0, mg_0_1, mg_0_2, mg_0_3, mg_0_4, mg_0_5, mg_0_6, mg_0_7, mg_0_8, mg_0_9, mg_0_10, mg_0_11, mo_14, Option.bind_some, if_true, a_copy, zcV_some, e3, v1, zcI_some]
theorem lk_by (E : zEk r) (a w : Int32) {h : zH} (st : zSt r n h) : zBoth r n n (zev r i_X5_by 0 [some (.ref (r.1 + 0)), some (.int a), some (.int w), none, none, none, none, none] []) (zev r i_X6_by 0 [some (.ref (r.1 + 49)), some (.int a), some (.int w), none, none, none, none, none] []) h := by
  obtain ⟨C, c, c2, I, J, Q, N, A, U, V, X, S, t, rfl, iv, t1, t2⟩ := st
  obtain ⟨k, hC, mv, _, _, _, no, -⟩ := id iv
  have k2 := k.2.1
  rcases zhk_cases C.2.1 (by omega) a with e | ⟨e, m, hm, rfl⟩
  · refine both (v := (-1)) (h1 := (zmk r c c c2 I J Q N A U V X S t)) (h2 := (zmk r c c c2 I J Q N A U V X S t)) ?_ ?_ (st_mk iv t1 t2)
    · simp only [E_X5_by_0, mo_0, mg_0_0, mg_0_1, mg_0_2, mg_0_3, mg_0_4, mg_0_5, mg_0_6, mg_0_7, mg_0_8, mg_0_9, mg_0_10, mg_0_11, Option.bind_some, (hC ..).1, if_true, cr_man (hC ..), e, zcI_some]
    · simp only [E_X6_by_0, mo_49, mg_49_0, mg_49_1, mg_49_2, mg_49_3, mg_49_4, mg_49_5, mg_49_6, mg_49_7, mg_49_8, mg_49_9, mg_49_10, mg_49_11, mg_49_12, mg_49_13, mg_49_14, mg_49_15, mg_49_16, mg_49_17, mg_49_18, mg_49_19, mg_49_20, mg_49_21, mg_49_22, mg_49_23, mg_49_24, mg_49_25, if_true, m_man mv k, e, zcI_some]
  rcases zhk_cases 3 (by decide) w with g | ⟨g, w, hw, rfl⟩
  · refine both (v := (-1)) (h1 := (zmk r c c c2 I J Q N A U V X S t)) (h2 := (zmk r c c c2 I J Q N A U V X S t)) ?_ ?_ (st_mk iv t1 t2)
    · simp only [E_X5_by_0, mo_0, mg_0_0, mg_0_1, mg_0_2, mg_0_3, mg_0_4, mg_0_5, mg_0_6, mg_0_7, mg_0_8, mg_0_9, mg_0_10, mg_0_11, Option.bind_some, (hC ..).1, if_true, cr_man (hC ..), e, k_when, g, i01, if_false, zcI_some]
    · simp only [E_X6_by_0, mo_49, mg_49_0, mg_49_1, mg_49_2, mg_49_3, mg_49_4, mg_49_5, mg_49_6, mg_49_7, mg_49_8, mg_49_9, mg_49_10, mg_49_11, mg_49_12, mg_49_13, mg_49_14, mg_49_15, mg_49_16, mg_49_17, mg_49_18, mg_49_19, mg_49_20, mg_49_21, mg_49_22, mg_49_23, mg_49_24, mg_49_25, if_true, m_man mv k, e, m_when, g, i01, if_false, zcI_some]
  -- the reference
  have e2 : ∀ (T : Int32 × Int32), T = (if sIn C N.1 m (nI w) = 0 then ((-9 : Int32), (-1 : Int32)) else zfd (yBy C N.1 N.2.2.1 m (nI w)) 0 C.2.1 (-9, -1)) → ∀ (I : zA) (c2 : Nat) (A : zBr), zev r i_X6_by 0 [some (.ref (r.1 + 49)), some (.int (nI m)), some (.int (nI w)), none, none, none, none, none] [] (zmk r c c c2 I J Q N A U V X S t) = some (some (.int T.1), (zmk r c c c2 I J Q N A (va_up U 2 (if T.1 = -9 then U 2 else T.2)) V X (zNw X S) t)) := by
    intro T hT I c2 A
    simp only [E_X6_by_0, mo_49, mg_49_0, mg_49_1, mg_49_2, mg_49_3, mg_49_4, mg_49_5, mg_49_6, mg_49_7, mg_49_8, mg_49_9, mg_49_10, mg_49_11, mg_49_12, mg_49_13, mg_49_14, mg_49_15, mg_49_16, mg_49_17, mg_49_18, mg_49_19, mg_49_20, mg_49_21, mg_49_22, mg_49_23, mg_49_24, mg_49_25, if_true, m_man mv k, e, m_when, g, i01, if_false, zcI_some, m_now, zcV_some, m_woken mv k hm (now_v k no m hm), sWo_c hm (now_h k no) (now_l k no)]
    have := zloopP (fun _ (s : Int32 × Int32) => -1 ≤ s.2) (fun j (s : Int32 × Int32) => zev r i_X6_by 40 [some (.ref (r.1 + 49)), some (.int (nI m)), some (.int (nI w)), some (.int s.1), some (.int s.2), some (.int (sWo C N.1 N.2.2.1 m (nI w) (-9))), some (.int (nI j)), none] [] (zmk r c c c2 I J Q N A U V X (zNw X S) t)) (fun s => some (some (.int s.1), (zmk r c c c2 I J Q N A (va_up U 2 (if s.1 = -9 then U 2 else s.2)) V X (zNw X S) t))) (fun (s : Int32 × Int32) q => if sIn C N.1 m (nI w) = 0 then s else yBy C N.1 N.2.2.1 m (nI w) s q) C.2.1 (fun j s hj p => by
      refine ⟨(E_X6_by_40 ..).trans ?_, ?_⟩
      · simp only [mo_49, mg_49_0, mg_49_1, mg_49_2, mg_49_3, mg_49_4, mg_49_5, mg_49_6, mg_49_7, mg_49_8, mg_49_9, mg_49_10, mg_49_11, mg_49_12, mg_49_13, mg_49_14, mg_49_15, mg_49_16, mg_49_17, mg_49_18, mg_49_19, mg_49_20, mg_49_21, mg_49_22, mg_49_23, mg_49_24, mg_49_25, Option.bind_some, if_pos (m_lt mv k hj), if_true, m_isin mv k hm, sIn_c (now_h k no m hm), m_beside1 mv k hj hm, sBes_c (now_h k no j hj) (now_h k no m hm), m_woken mv k hm (now_v k no m hm), sWo_c hm (now_h k no) (now_l k no), zcI_some, E_X6_by_84, nI_1]
        unfold yBy
        by_cases z : sIn C N.1 m (nI w) = 0
        · simp only [z, if_true, if_neg (Int32.not_lt.mpr p)]
        · simp only [z, if_false]
          by_cases z1 : sBes C N.1 j m (nI w) = 0
          · simp only [z1, if_true, if_neg (Int32.not_lt.mpr p)]
          · simp only [z1, if_false]
            by_cases z2 : s.2 < sWo C N.1 N.2.2.1 m (nI w) (-9) - sWo C N.1 N.2.2.1 m (nI w) (nI j)
            · simp only [z2, if_true]
            · simp only [z2, if_false]
      · unfold yBy
        split
        · exact p
        · split
          · exact p
          · split
            · rename_i z; exact Int32.le_of_lt (Int32.lt_of_le_of_lt p z)
            · exact p) (fun s p => by
      refine (E_X6_by_40 ..).trans ?_
      simp only [mo_49, mg_49_0, mg_49_1, mg_49_2, mg_49_3, mg_49_4, mg_49_5, mg_49_6, mg_49_7, mg_49_8, mg_49_9, mg_49_10, mg_49_11, mg_49_12, mg_49_13, mg_49_14, mg_49_15, mg_49_16, mg_49_17, mg_49_18, mg_49_19, mg_49_20, mg_49_21, mg_49_22, mg_49_23, mg_49_24, mg_49_25, Option.bind_some, if_neg (m_nlt mv k), mp_49_11]
      split <;> rfl) (-9, -1) (by decide)
    have hz : zfd (fun (s : Int32 × Int32) q => if sIn C N.1 m (nI w) = 0 then s else yBy C N.1 N.2.2.1 m (nI w) s q) 0 C.2.1 (-9, -1) = T := by
      rw [hT]
      by_cases z : sIn C N.1 m (nI w) = 0
      · rw [if_pos z]
        have : ∀ q j (s : Int32 × Int32), zfd (fun (s : Int32 × Int32) q => if sIn C N.1 m (nI w) = 0 then s else yBy C N.1 N.2.2.1 m (nI w) s q) j q s = s := by
          intro q
          induction q with
          | zero => intro j s; rfl
          | succ q ih => intro j s; rw [zfd, if_pos z, ih]
        exact this _ _ _
      · rw [if_neg z]
        exact zfd_congr fun s j _ _ => if_neg z
    rw [hz] at this
    exact this.1
  by_cases z : sIn C N.1 m (nI w) = 0
  · have e3 := e2 (-9, -1) (by rw [if_pos z]) I c2 A
    simp only [if_true, va_self] at e3
    refine both (v := (-9)) (h1 := (zmk r c c c2 I J Q N A U V X S t)) ?_ e3 (st_mk iv t1 t2)
    simp only [E_X5_by_0, mo_0, mg_0_0, mg_0_1, mg_0_2, mg_0_3, mg_0_4, mg_0_5, mg_0_6, mg_0_7, mg_0_8, mg_0_9, mg_0_10, mg_0_11, mo_9, Option.bind_some, (hC ..).1, if_true, cr_man (hC ..), e, k_when, g, i01, if_false, b_in (nBx hC) k hm, z, zcI_some]
  have e1 : ∃ c2' A', zev r i_X5_by 0 [some (.ref (r.1 + 0)), some (.int (nI m)), some (.int (nI w)), none, none, none, none, none] [] (zmk r c c c2 I J Q N A U V X S t) = some (some (.int (zfd (yBy C N.1 N.2.2.1 m (nI w)) 0 C.2.1 (-9, -1)).1), if (zfd (yBy C N.1 N.2.2.1 m (nI w)) 0 C.2.1 (-9, -1)).1 = -9 then (zmk r c c (c2') I J Q N (A') U V X S t) else (zmk r c c (c2') (va_up I 0 (zfd (yBy C N.1 N.2.2.1 m (nI w)) 0 C.2.1 (-9, -1)).2) J Q N (A') U V X S t)) := by
    have nb := b_neigh (nBx (c0 := c) (c2 := c2) (I := I) (J := J) (Q := Q) (A := A) (U := U) (V := V) (X := X) (S := S) hC) k (B := N) no.1 hm (nI w)
    simp only [E_X5_by_0, mo_0, mg_0_0, mg_0_1, mg_0_2, mg_0_3, mg_0_4, mg_0_5, mg_0_6, mg_0_7, mg_0_8, mg_0_9, mg_0_10, mg_0_11, mo_9, Option.bind_some, (hC ..).1, if_true, cr_man (hC ..), e, k_when, g, i01, if_false, b_in (nBx hC) k hm, z, zcI_some, nb]
    refine zloopS (fun j (s : (Int32 × Int32) × (Nat × zBr)) => s.1 = zfd (yBy C N.1 N.2.2.1 m (nI w)) 0 j (-9, -1)) (fun e => ∃ c2' A', e = some (some (.int (zfd (yBy C N.1 N.2.2.1 m (nI w)) 0 C.2.1 (-9, -1)).1), if (zfd (yBy C N.1 N.2.2.1 m (nI w)) 0 C.2.1 (-9, -1)).1 = -9 then (zmk r c c (c2') I J Q N (A') U V X S t) else (zmk r c c (c2') (va_up I 0 (zfd (yBy C N.1 N.2.2.1 m (nI w)) 0 C.2.1 (-9, -1)).2) J Q N (A') U V X S t))) (fun j (s : (Int32 × Int32) × (Nat × zBr)) => zev r i_X5_by 55 [some (.ref (r.1 + 0)), some (.int (nI m)), some (.int (nI w)), some (.int (sBe C N.1 m (nI w))), some (.int s.1.1), some (.int s.1.2), some (.int (nI j)), none] [] (zmk r c c (s.2.1) I J Q N (s.2.2) U V X S t)) C.2.1 (fun j s hj p => .inr ?_) (fun s p => ⟨s.2.1, s.2.2, ?_⟩) ((-9, -1), (c2, A)) rfl
    · by_cases z1 : sBes C N.1 j m (nI w) = 0
      · refine ⟨s, ?_, ?_⟩
        · refine (E_X5_by_55 ..).trans ?_
          simp only [mo_0, mg_0_0, mg_0_1, mg_0_2, mg_0_3, mg_0_4, mg_0_5, mg_0_6, mg_0_7, mg_0_8, mg_0_9, mg_0_10, mg_0_11, (hC ..).2.2.1, Option.bind_some, if_pos (nI_lt6 k hj), sBe_bit k hj, z1, if_true, nI_1]
        · rw [zfd_succ, Nat.zero_add, ← p]
          unfold yBy
          rw [if_pos z1]
      · have hn : j ≠ m := fun y => z1 (by subst y; exact sBes_self)
        obtain ⟨A', e4⟩ := k_without (c2 := s.2.1) (A := s.2.2) (I := I) (J := J) (Q := Q) (U := U) (V := V) (S := S) E k hC no (m := m) (q := j) hm hj hn (nI w)
        have nw := b_wak (nBx (c0 := c) (c2 := s.2.1) (I := I) (J := J) (Q := Q) (A := s.2.2) (U := U) (V := V) (X := X) (S := S) hC) k E (B := N) no.2.1 no.1 hm (nI w)
        refine ⟨(yBy C N.1 N.2.2.1 m (nI w) s.1 j, (c, A')), ?_, ?_⟩
        · refine (E_X5_by_55 ..).trans ?_
          unfold yBy
          simp only [mo_0, mg_0_0, mg_0_1, mg_0_2, mg_0_3, mg_0_4, mg_0_5, mg_0_6, mg_0_7, mg_0_8, mg_0_9, mg_0_10, mg_0_11, mo_9, (hC ..).2.2.1, Option.bind_some, if_pos (nI_lt6 k hj), sBe_bit k hj, z1, if_true, if_false, nw, e4, zcI_some, nI_1]
          split <;> rfl
        · dsimp only
          rw [zfd_succ, Nat.zero_add, ← p]
    · refine (E_X5_by_55 ..).trans ?_
      simp only [mo_0, mg_0_0, mg_0_1, mg_0_2, mg_0_3, mg_0_4, mg_0_5, mg_0_6, mg_0_7, mg_0_8, mg_0_9, mg_0_10, mg_0_11, (hC ..).2.2.1, Option.bind_some, if_neg (nI_nlt6 k), if_true, k_tell, zcV_some, p]
      split <;> rfl
  obtain ⟨c3, A3, e1⟩ := e1
  generalize hT : zfd (yBy C N.1 N.2.2.1 m (nI w)) 0 C.2.1 (-9, -1) = T at e1
  have e4 := e2 T (by rw [if_neg z, hT])
  by_cases z9 : T.1 = -9
  · rw [if_pos z9] at e1
    have e5 := e4 I c3 A3
    rw [if_pos z9, va_self] at e5
    exact both e1 e5 (st_mk iv t1 t2)
  · rw [if_neg z9] at e1
    have e5 := e4 (va_up I 0 T.2) c3 A3
    rw [if_neg z9] at e5
    exact both e1 e5 (st_mk (iv_tell _ iv) t1 t2)
end BY
