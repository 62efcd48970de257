/-! WHAT IS TOLD OF THE DECK AS IT IS: calls -/
section NOW
variable {r : zE} {c0 c1 c2 : Nat} {I : Nat → Int32} {J : Nat → Int64} {Q : Nat → Nat → Int32} {N A : zBr} {Ga Va : Nat → Int32} {t : zH} {C : zCs} {c n : Nat}
theorem nBx (h : zCt r t c C) : zBx r (r.1 + 9) (r.1 + c) C (fun B => zmk r c0 c c2 I J Q B A Ga Va t) := fun B => ⟨h .., mo_9, mg_9_0, mg_9_1, mg_9_2, mg_9_3, mg_9_4, fun j hj => ma_10 hj, fun j hj => ma_11 hj, fun j hj => ma_12 hj, fun j hj => ma_13 hj, fun j y hj => mw_10 hj, fun j y hj => mw_11 hj, fun j y hj => mw_12 hj, fun j y hj => mw_13 hj, mn_10, mn_11⟩
theorem aBx (h : zCt r t c C) : zBx r (r.1 + 14) (r.1 + c) C (fun B => zmk r c0 c1 c I J Q N B Ga Va t) := fun B => ⟨h .., mo_14, mg_14_0, mg_14_1, mg_14_2, mg_14_3, mg_14_4, fun j hj => ma_15 hj, fun j hj => ma_16 hj, fun j hj => ma_17 hj, fun j hj => ma_18 hj, fun j y hj => mw_15 hj, fun j y hj => mw_16 hj, fun j y hj => mw_17 hj, fun j y hj => mw_18 hj, mn_15, mn_16⟩
theorem who_g {H G : zA} (g : zCG C H G) (k : zCk C) {H' : zA} (e : ∀ m, m < C.2.1 → H' m = H m) {j : Nat} (hj : j < C.1) : sWho H' (nI j) 0 C.2.1 = G j := by
  have key : ∀ n b, b + n = C.2.1 → (∀ m, m < b → ¬ H' m = nI j) → sWho H' (nI j) b n = G j := by
    intro n
    induction n with
    | zero =>
      intro b hb nb
      rcases g.2 j hj with q | ⟨m, a1, a2, a3⟩
      · exact q.symm
      · exact absurd ((e m a1).trans a3) (nb m (by omega))
    | succ n ih =>
      intro b hb nb
      rw [sWho]
      by_cases q : H' b = nI j
      · rw [if_pos q]
        rcases g.1 b (by omega) with w | ⟨j2, a1, a2, a3⟩
        · have h7 := k.1
          exact absurd (q.symm.trans ((e b (by omega)).trans w)) (nI_n9 (by omega))
        · have h7 := k.1
          have : j2 = j := (nI_eq (by omega) (by omega)).mp (a2.symm.trans ((e b (by omega)).symm.trans q))
          subst this
          exact a3.symm
      · rw [if_neg q]
        exact ih (b + 1) (by omega) fun m hm => by
          by_cases w : m = b
          · subst w; exact q
          · exact nb m (by omega)
  exact key C.2.1 0 (by omega) fun m hm => absurd hm (Nat.not_lt_zero m)
end NOW
section CALLS2
variable {r : zE} {C : zCs} {d : Nat} {M : Nat → zDk} {K : Nat → Option (Nat × (Nat → zDk))} {W Tx : Nat → Option (List Int32)} {ta : Int32} {tu tl : Int64} {Ga Va : zA} {n : Nat} {h : zH}
theorem de_h {C : zCs} {N : zBr} {D : zDk} (e : zDe C N D) : ∀ m, m < C.2.1 → N.1 m = D.1 m := fun m hm => (e m hm).1
theorem de_l {C : zCs} {N : zBr} {D : zDk} (e : zDe C N D) : ∀ m, m < C.2.1 → N.2.2.1 m = D.2.1 m := fun m hm => (e m hm).2.1
theorem de_t {C : zCs} {N : zBr} {D : zDk} (e : zDe C N D) : ∀ m, m < C.2.1 → N.2.2.2 m = D.2.2 m := fun m hm => (e m hm).2.2
theorem de_man {C : zCs} {N : zBr} {D : zDk} (e : zDe C N D) {m : Nat} (hm : m < C.2.1) (i : Int32) : sMan C N.1 N.2.2.1 N.2.2.2 m i = sMan C D.1 D.2.1 D.2.2 m i := by
  obtain ⟨e1, e2, e3⟩ := e m hm
  unfold sMan
  rw [e1, e2, e3]
theorem ck_man {m i : Nat} (hm : m < C.2.1) (hi : i < 6) (st : zSt r C d M K W Tx ta tu tl Ga Va n h) : ∃ h', zev r i_X5_man 0 [some (.ref (r.1 + 0)), some (.int (nI m)), some (.int (nI i))] [] h = some (some (.int 1), h') ∧ zSt r C d M K W Tx (sMan C (M d).1 (M d).2.1 (M d).2.2 m (nI i)) tu tl Ga Va n h' := by
  obtain ⟨c, c2, I, J, Q, N, A, t, rfl, iv, t1, t2⟩ := st
  obtain ⟨k, hC, no, de, -⟩ := id iv
  have e : zhk C.2.1 (nI m) = 1 := zhk_in hm (by have := k.2.1; omega)
  have b1 : ¬ nI i < 0 := nI_pos (by omega)
  have b2 : nI i < 6 := nI_lt (b := 6) hi (by decide)
  rw [← de_man de hm]
  refine ⟨(zmk r c c c2 (va_up I 0 (sMan C N.1 N.2.2.1 N.2.2.2 m (nI i))) J Q N A Ga Va t), ?_, st_mk (iv_told _ iv) t1 t2⟩
  simp only [E_X5_man_0, mo_0, mg_0_0, mg_0_1, mg_0_2, mg_0_3, mg_0_4, mg_0_5, mg_0_6, mg_0_7, mg_0_8, mg_0_9, mg_0_10, mg_0_11, mo_9, Option.bind_some, (hC ..).1, if_true, cr_man (hC ..), e, i01, if_false, b1, b2, b_man (nBx hC) k hm, k_tell, zcV_some, zcI_some]
theorem ck_hook {m : Nat} (hm : m < C.1) (st : zSt r C d M K W Tx ta tu tl Ga Va n h) : ∃ h', zev r i_X5_hook 0 [some (.ref (r.1 + 0)), some (.int (nI m)), some (.int 1)] [] h = some (some (.int 1), h') ∧ zSt r C d M K W Tx (sWho (M d).1 (nI m) 0 C.2.1) tu tl Ga Va n h' := by
  obtain ⟨c, c2, I, J, Q, N, A, t, rfl, iv, t1, t2⟩ := st
  obtain ⟨k, hC, no, de, -⟩ := id iv
  have e : zhk C.1 (nI m) = 1 := zhk_in hm (by have := k.1; omega)
  rw [who_g no.1 k (fun q hq => (de_h de q hq).symm) hm]
  refine ⟨(zmk r c c c2 (va_up I 0 (N.2.1 m)) J Q N A Ga Va t), ?_, st_mk (iv_told _ iv) t1 t2⟩
  simp only [E_X5_hook_0, mo_0, mg_0_0, mg_0_1, mg_0_2, mg_0_3, mg_0_4, mg_0_5, mg_0_6, mg_0_7, mg_0_8, mg_0_9, mg_0_10, mg_0_11, mo_9, Option.bind_some, (hC ..).1, if_true, cr_hook (hC ..), e, i01, if_false, show ¬ (1 : Int32) < 0 by decide, show (1 : Int32) < 2 by decide, b_hook (nBx hC) k hm, k_tell, zcV_some, zcI_some]
theorem ck_neighbours {m w : Nat} (hm : m < C.2.1) (hw : w < 3) (st : zSt r C d M K W Tx ta tu tl Ga Va n h) : zev r i_X5_neighbours 0 [some (.ref (r.1 + 0)), some (.int (nI m)), some (.int (nI w))] [] h = some (some (.int (sBe C (M d).1 m (nI w))), h) := by
  obtain ⟨c, c2, I, J, Q, N, A, t, rfl, iv, t1, t2⟩ := st
  obtain ⟨k, hC, no, de, -⟩ := id iv
  have e : zhk C.2.1 (nI m) = 1 := zhk_in hm (by have := k.2.1; omega)
  have f : zhk 3 (nI w) = 1 := zhk_in hw (by decide)
  rw [← sBe_c hm (de_h de)]
  simp only [E_X5_neighbours_0, mo_0, mg_0_0, mg_0_1, mg_0_2, mg_0_3, mg_0_4, mg_0_5, mg_0_6, mg_0_7, mg_0_8, mg_0_9, mg_0_10, mg_0_11, mo_9, Option.bind_some, (hC ..).1, if_true, cr_man (hC ..), e, i01, if_false, k_when, f, b_neigh (nBx hC) k no.1 hm, zcI_some]
theorem ck_woken (E : zEk r) {m w : Nat} (hm : m < C.2.1) (hw : w < 3) (st : zSt r C d M K W Tx ta tu tl Ga Va n h) : zev r i_X5_woken 0 [some (.ref (r.1 + 0)), some (.int (nI m)), some (.int (nI w))] [] h = some (some (.int (sWo C (M d).1 (M d).2.1 m (nI w) (-9))), h) := by
  obtain ⟨c, c2, I, J, Q, N, A, t, rfl, iv, t1, t2⟩ := st
  obtain ⟨k, hC, no, de, -⟩ := id iv
  have e : zhk C.2.1 (nI m) = 1 := zhk_in hm (by have := k.2.1; omega)
  have f : zhk 3 (nI w) = 1 := zhk_in hw (by decide)
  rw [← sWo_c hm (de_h de) (de_l de)]
  simp only [E_X5_woken_0, mo_0, mg_0_0, mg_0_1, mg_0_2, mg_0_3, mg_0_4, mg_0_5, mg_0_6, mg_0_7, mg_0_8, mg_0_9, mg_0_10, mg_0_11, mo_9, Option.bind_some, (hC ..).1, if_true, cr_man (hC ..), e, i01, if_false, k_when, f, b_wak (nBx hC) k E no.2.1 no.1 hm, zcI_some]
theorem ck_all (E : zEk r) {w : Nat} (hw : w < 3) (st : zSt r C d M K W Tx ta tu tl Ga Va n h) : ∃ h', zev r i_X5_all 0 [some (.ref (r.1 + 0)), some (.int (nI w))] [] h = some (some (.int (sAll C (M d).1 (M d).2.1 (nI w))), h') ∧ zSt r C d M K W Tx (sMany C (M d).1 (nI w)) tu tl Ga Va n h' := by
  obtain ⟨c, c2, I, J, Q, N, A, t, rfl, iv, t1, t2⟩ := st
  obtain ⟨k, hC, no, de, -⟩ := id iv
  have f : zhk 3 (nI w) = 1 := zhk_in hw (by decide)
  rw [← sAll_c (de_h de) (de_l de), ← sMany_c (de_h de)]
  refine ⟨(zmk r c c c2 (va_up I 0 (sMany C N.1 (nI w))) J Q N A Ga Va t), ?_, st_mk (iv_told _ iv) t1 t2⟩
  simp only [E_X5_all_0, mo_0, mg_0_0, mg_0_1, mg_0_2, mg_0_3, mg_0_4, mg_0_5, mg_0_6, mg_0_7, mg_0_8, mg_0_9, mg_0_10, mg_0_11, mo_9, Option.bind_some, if_true, i01, if_false, k_when, f, b_many (nBx hC) k, k_tell, zcV_some, b_all (nBx hC) k E no.2.1 no.1, zcI_some]
/-- who is woken most, so far -/
def yWst (C : zCs) (H L : zA) (w : Int32) (s : Int32 × Int32) (m : Nat) : Int32 × Int32 := if sIn C H m w = 0 then s else if s.2 < sWo C H L m w (-9) then (nI m, sWo C H L m w (-9)) else s
theorem yWst_c {C : zCs} {H H' L L' : zA} (e : ∀ k, k < C.2.1 → H' k = H k) (el : ∀ k, k < C.2.1 → L' k = L k) (w : Int32) (s : Int32 × Int32) : zfd (yWst C H' L' w) 0 C.2.1 s = zfd (yWst C H L w) 0 C.2.1 s := zfd_congr fun s k _ hk => by
  unfold yWst
  rw [sIn_c (e k (by omega)), sWo_c (by omega) e el]
theorem ck_worst (E : zEk r) {w : Nat} (hw : w < 3) (st : zSt r C d M K W Tx ta tu tl Ga Va n h) : ∃ h', zev r i_X5_worst 0 [some (.ref (r.1 + 0)), some (.int (nI w)), none, none, none, none] [] h = some (some (.int (zfd (yWst C (M d).1 (M d).2.1 (nI w)) 0 C.2.1 (-9, -1)).1), h') ∧ zSt r C d M K W Tx (if (zfd (yWst C (M d).1 (M d).2.1 (nI w)) 0 C.2.1 (-9, -1)).1 = -9 then ta else (zfd (yWst C (M d).1 (M d).2.1 (nI w)) 0 C.2.1 (-9, -1)).2) tu tl Ga Va n h' := by
  obtain ⟨c, c2, I, J, Q, N, A, t, rfl, iv, t1, t2⟩ := st
  obtain ⟨k, hC, no, de, -⟩ := id iv
  have f : zhk 3 (nI w) = 1 := zhk_in hw (by decide)
  rw [← yWst_c (de_h de) (de_l de)]
  have hv : ∀ s : Int32 × Int32, ∃ q : Int32 × Int32, q = zfd (yWst C N.1 N.2.2.1 (nI w)) 0 C.2.1 s := fun s => ⟨_, rfl⟩
  obtain ⟨q, hq⟩ := hv (-9, -1)
  have e1 : zev r i_X5_worst 0 [some (.ref (r.1 + 0)), some (.int (nI w)), none, none, none, none] [] (zmk r c c c2 I J Q N A Ga Va t) = some (some (.int q.1), if q.1 = -9 then (zmk r c c c2 I J Q N A Ga Va t) else (zmk r c c c2 (va_up I 0 q.2) J Q N A Ga Va t)) := by
    simp only [E_X5_worst_0, k_when, f, i01, if_false, zcI_some]
    have := zloop (fun j (s : Int32 × Int32) => zev r i_X5_worst 17 [some (.ref (r.1 + 0)), some (.int (nI w)), some (.int s.1), some (.int s.2), some (.int (nI j)), none] [] (zmk r c c c2 I J Q N A Ga Va t)) (fun s => some (some (.int s.1), if s.1 = -9 then (zmk r c c c2 I J Q N A Ga Va t) else (zmk r c c c2 (va_up I 0 s.2) J Q N A Ga Va t))) (yWst C N.1 N.2.2.1 (nI w)) C.2.1 (fun j s hj => by
      refine (E_X5_worst_17 ..).trans ?_
      simp only [mo_0, mg_0_0, mg_0_1, mg_0_2, mg_0_3, mg_0_4, mg_0_5, mg_0_6, mg_0_7, mg_0_8, mg_0_9, mg_0_10, mg_0_11, mo_9, (hC ..).2.2.1, Option.bind_some, if_pos (nI_lt6 k hj), if_true, b_wak (nBx hC) k E no.2.1 no.1 hj, b_in (nBx hC) k hj, zcI_some, nI_1, yWst]
      split
      · rfl
      · split <;> rfl) (fun s => by
      refine (E_X5_worst_17 ..).trans ?_
      simp only [mo_0, mg_0_0, mg_0_1, mg_0_2, mg_0_3, mg_0_4, mg_0_5, mg_0_6, mg_0_7, mg_0_8, mg_0_9, mg_0_10, mg_0_11, (hC ..).2.2.1, Option.bind_some, if_neg (nI_nlt6 k), if_true, k_tell, zcV_some]
      split <;> rfl) (-9, -1)
    rw [← hq] at this
    exact this
  rw [← hq]
  by_cases z : q.1 = -9
  · rw [if_pos z] at e1
    rw [if_pos z]
    exact ⟨_, e1, st_mk iv t1 t2⟩
  · rw [if_neg z] at e1
    rw [if_neg z]
    exact ⟨_, e1, st_mk (iv_told _ iv) t1 t2⟩
end CALLS2
