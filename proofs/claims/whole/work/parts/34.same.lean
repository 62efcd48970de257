/-! THE SAME HOOKS AND LINES TELL THE SAME; laying now; what is told, both alike -/
section SAME
variable {C : zCs} {H H' L L' : zA}
theorem sIn_c {m : Nat} (e : H' m = H m) (w : Int32) : sIn C H' m w = sIn C H m w := by unfold sIn; rw [e]
theorem sBes_c {k m : Nat} (e1 : H' k = H k) (e : H' m = H m) (w : Int32) : sBes C H' k m w = sBes C H k m w := by unfold sBes; rw [sIn_c e1, e1, e]
theorem sWk_c {k m : Nat} (e1 : L' k = L k) (e : L' m = L m) : sWk C L' k m = sWk C L k m := by unfold sWk; rw [e1, e]
theorem sSu_c {m : Nat} (hm : m < C.2.1) (e : ∀ k, k < C.2.1 → H' k = H k) (el : ∀ k, k < C.2.1 → L' k = L k) (w b : Int32) : sSu C H' L' m w b = sSu C H L m w b := by
  unfold sSu
  rw [e m hm]
  exact zfd_congr fun s k _ hk => by rw [sBes_c (e k (by omega)) (e m hm), sWk_c (el k (by omega)) (el m hm)]
theorem sWo_c {m : Nat} (hm : m < C.2.1) (e : ∀ k, k < C.2.1 → H' k = H k) (el : ∀ k, k < C.2.1 → L' k = L k) (w b : Int32) : sWo C H' L' m w b = sWo C H L m w b := by
  unfold sWo
  rw [sIn_c (e m hm), sSu_c hm e el]
theorem sAll_c (e : ∀ k, k < C.2.1 → H' k = H k) (el : ∀ k, k < C.2.1 → L' k = L k) (w : Int32) : sAll C H' L' w = sAll C H L w := zfd_congr fun s k _ hk => by rw [sWo_c (by omega) e el]
theorem sMost_c (e : ∀ k, k < C.2.1 → H' k = H k) (el : ∀ k, k < C.2.1 → L' k = L k) (w : Int32) : sMost C H' L' w = sMost C H L w := zfd_congr fun s k _ hk => by rw [sWo_c (by omega) e el]
theorem sMany_c (e : ∀ k, k < C.2.1 → H' k = H k) (w : Int32) : sMany C H' w = sMany C H w := zfd_congr fun s k _ hk => by rw [sIn_c (e k (by omega))]
theorem sBe_c {m : Nat} (hm : m < C.2.1) (e : ∀ k, k < C.2.1 → H' k = H k) (w : Int32) : sBe C H' m w = sBe C H m w := zfd_congr fun s k _ hk => by rw [sBes_c (e k (by omega)) (e m hm)]
theorem sKin_c {m : Nat} (hm : m < C.2.1) (e : ∀ k, k < C.2.1 → H' k = H k) (w i : Int32) : sKin C H' m w i = sKin C H m w i := zfd_congr fun s k _ hk => by rw [sBes_c (e k (by omega)) (e m hm)]
theorem sMates_c (e : ∀ k, k < C.2.1 → H' k = H k) : sMates C H' = sMates C H := zfd_congr fun s m _ hm => zfd_congr fun s k _ hk => by rw [sBes_c (e k (by omega)) (e m (by omega))]
theorem sTired_c {T T' : zA} (e : ∀ k, k < C.2.1 → T' k = T k) : sTired C T' = sTired C T := zfd_congr fun s k _ hk => by rw [e k (by omega)]
theorem sHung_c (e : ∀ k, k < C.2.1 → H' k = H k) : sHung C H' = sHung C H := zfd_congr fun s k _ hk => by rw [e k (by omega)]
end SAME
section NOW
variable {r : zE} {c0 c1 c2 : Nat} {I : Nat → Int32} {J : Nat → Int64} {Q : Nat → Nat → Int32} {N A : zBr} {U : Nat → Int32} {V : Nat → Int64} {X : Nat → Nat → Int32} {S : zSs} {t : zH} {C : zCs} {c n : Nat}
theorem nBx (h : zCt r t c C) : zBx r (r.1 + 9) (r.1 + c) C (fun B => zmk r c0 c c2 I J Q B A U V X S t) := fun B => ⟨h .., mo_9, mg_9_0, mg_9_1, mg_9_2, mg_9_3, mg_9_4, fun j hj => ma_10 hj, fun j hj => ma_11 hj, fun j hj => ma_12 hj, fun j hj => ma_13 hj, fun j y hj => mw_10 hj, fun j y hj => mw_11 hj, fun j y hj => mw_12 hj, fun j y hj => mw_13 hj, mn_10, mn_11⟩
theorem aBx (h : zCt r t c C) : zBx r (r.1 + 14) (r.1 + c) C (fun B => zmk r c0 c1 c I J Q N B U V X S t) := fun B => ⟨h .., mo_14, mg_14_0, mg_14_1, mg_14_2, mg_14_3, mg_14_4, fun j hj => ma_15 hj, fun j hj => ma_16 hj, fun j hj => ma_17 hj, fun j hj => ma_18 hj, fun j y hj => mw_15 hj, fun j y hj => mw_16 hj, fun j y hj => mw_17 hj, fun j y hj => mw_18 hj, mn_15, mn_16⟩
/-- what is tried at first: as it is now -/
def zNw (X : Nat → zA) (S : zSs) : zSs := (fun m => if m < 6 then X 0 (1 + m) else S.1 m, fun m => if m < 6 then X 0 (7 + m) else S.2.1 m, S.2.2)
theorem m_now : zev r i_X6_layNow 0 [some (.ref (r.1 + 49)), none] [] (zmk r c0 c1 c2 I J Q N A U V X S t) = some (none, (zmk r c0 c1 c2 I J Q N A U V X (zNw X S) t)) := by
  rw [E_X6_layNow_0]
  have := zloop (fun j (s : zA × zA) => zev r i_X6_layNow 2 [some (.ref (r.1 + 49)), some (.int (nI j))] [] (zmk r c0 c1 c2 I J Q N A U V X ((s.1, s.2, S.2.2)) t)) (fun s => some (none, (zmk r c0 c1 c2 I J Q N A U V X ((s.1, s.2, S.2.2)) t))) (fun s j => (upd s.1 j (X 0 (1 + j)), upd s.2 j (X 0 (7 + j)))) 6 (fun j s hj => by
    refine (E_X6_layNow_2 ..).trans ?_
    have e1 : (1 : Int32) + nI j = nI (1 + j) := nI_add 1 j
    have e2 : (7 : Int32) + nI j = nI (7 + j) := nI_add 7 j
    simp only [if_pos (show nI j < 6 from nI_lt (b := 6) hj (by decide)), mo_49, mg_49_0, mg_49_1, mg_49_2, mg_49_3, mg_49_4, mg_49_5, mg_49_6, mg_49_7, mg_49_8, mg_49_9, mg_49_10, mg_49_11, mg_49_12, mg_49_13, mg_49_14, mg_49_15, mg_49_16, mg_49_17, mg_49_18, mg_49_19, mg_49_20, mg_49_21, mg_49_22, mg_49_23, mg_49_24, mg_49_25, Option.bind_some, e1, e2, ma_50 (show 1 + j < 4396 by omega), ma_50 (show 7 + j < 4396 by omega), mw_62 hj, mw_63 hj, nI_1]) (fun s => by
    refine (E_X6_layNow_2 ..).trans ?_
    simp only [if_neg (show ¬ nI 6 < 6 by decide)]) (S.1, S.2.1)
  refine this.trans ?_
  have e : ∀ k, k ≤ 6 → zfd (fun (s : zA × zA) j => (upd s.1 j (X 0 (1 + j)), upd s.2 j (X 0 (7 + j)))) 0 k (S.1, S.2.1) = (fun m => if m < k then X 0 (1 + m) else S.1 m, fun m => if m < k then X 0 (7 + m) else S.2.1 m) := by
    intro k
    induction k with
    | zero => intro _; simp [zfd]
    | succ k ih =>
      intro hk
      rw [zfd_succ, ih (by omega)]
      refine Prod.ext (funext fun m => ?_) (funext fun m => ?_)
      · show upd _ _ _ m = _
        unfold upd
        dsimp only
        rw [Nat.zero_add]
        by_cases q : m = k
        · subst q; rw [if_pos rfl, if_pos (by omega)]
        · rw [if_neg q]
          by_cases q2 : m < k
          · rw [if_pos q2, if_pos (by omega)]
          · rw [if_neg q2, if_neg (by omega)]
      · show upd _ _ _ m = _
        unfold upd
        dsimp only
        rw [Nat.zero_add]
        by_cases q : m = k
        · subst q; rw [if_pos rfl, if_pos (by omega)]
        · rw [if_neg q]
          by_cases q2 : m < k
          · rw [if_pos q2, if_pos (by omega)]
          · rw [if_neg q2, if_neg (by omega)]
  rw [e 6 (Nat.le_refl 6)]
  rfl
theorem now_h (k : zCk C) (no : zNo C N X) : ∀ m, m < C.2.1 → (zNw X S).1 m = N.1 m := fun m hm => by
  show (if m < 6 then X 0 (1 + m) else S.1 m) = _
  rw [if_pos (by have := k.2.1; omega), (no.2.2 m hm).1]
theorem now_l (k : zCk C) (no : zNo C N X) : ∀ m, m < C.2.1 → (zNw X S).2.1 m = N.2.2.1 m := fun m hm => by
  show (if m < 6 then X 0 (7 + m) else S.2.1 m) = _
  rw [if_pos (by have := k.2.1; omega), (no.2.2 m hm).2.1]
theorem cg_vd {H G : zA} (g : zCG C H G) : zVd C H := fun m hm => (g.1 m hm).imp id fun ⟨j, a, b, _⟩ => ⟨j, a, b⟩
theorem vd_c {H H' : zA} (e : ∀ m, m < C.2.1 → H' m = H m) (v : zVd C H) : zVd C H' := fun m hm => by rw [e m hm]; exact v m hm
theorem now_v (k : zCk C) (no : zNo C N X) : zVd C (zNw X S).1 := vd_c (now_h k no) (cg_vd no.1)
theorem who_g {H G : zA} (g : zCG C H G) (k : zCk C) {H' : zA} (e : ∀ m, m < C.2.1 → H' m = H m) {j : Nat} (hj : j < C.1) : sWho H' (nI j) 0 C.2.1 = G j := by
  have key : ∀ n b, b + n = C.2.1 → (∀ m, m < b → ¬ H' m = nI j) → sWho H' (nI j) b n = G j := by
    intro n
    induction n with
    | zero =>
      intro b hb nb
      rcases g.2 j hj with q | ⟨m, a1, a2, a3⟩
      · exact q.symm
      · exact absurd ((e m a1).trans a3) (nb m (by omega))
    | succ n ih =>
      intro b hb nb
      rw [sWho]
      by_cases q : H' b = nI j
      · rw [if_pos q]
        rcases g.1 b (by omega) with w | ⟨j2, a1, a2, a3⟩
        · have h7 := k.1
          exact absurd (q.symm.trans ((e b (by omega)).trans w)) (nI_n9 (by omega))
        · have h7 := k.1
          have : j2 = j := (nI_eq (by omega) (by omega)).mp (a2.symm.trans ((e b (by omega)).symm.trans q))
          subst this
          exact a3.symm
      · rw [if_neg q]
        exact ih (b + 1) (by omega) fun m hm => by
          by_cases w : m = b
          · subst w; exact q
          · exact nb m (by omega)
  exact key C.2.1 0 (by omega) fun m hm => absurd hm (Nat.not_lt_zero m)
theorem lk_man (a b : Int32) {h : zH} (st : zSt r n h) : zBoth r n n (zev r i_X5_man 0 [some (.ref (r.1 + 0)), some (.int a), some (.int b)] []) (zev r i_X6_man 0 [some (.ref (r.1 + 49)), some (.int a), some (.int b)] []) h := by
  obtain ⟨C, c, c2, I, J, Q, N, A, U, V, X, S, t, rfl, iv, t1, t2⟩ := st
  obtain ⟨k, hC, mv, _, _, _, no, -⟩ := id iv
  rcases zhk_cases C.2.1 (by have := k.2.1; omega) a with e | ⟨e, m, hm, rfl⟩
  · refine both (v := (-1)) (h1 := (zmk r c c c2 I J Q N A U V X S t)) (h2 := (zmk r c c c2 I J Q N A U V X S t)) ?_ ?_ (st_mk iv t1 t2)
    · simp only [E_X5_man_0, mo_0, mg_0_0, mg_0_1, mg_0_2, mg_0_3, mg_0_4, mg_0_5, mg_0_6, mg_0_7, mg_0_8, mg_0_9, mg_0_10, mg_0_11, Option.bind_some, (hC ..).1, if_true, cr_man (hC ..), e, zcI_some]
    · simp only [E_X6_man_0, mo_49, mg_49_0, mg_49_1, mg_49_2, mg_49_3, mg_49_4, mg_49_5, mg_49_6, mg_49_7, mg_49_8, mg_49_9, mg_49_10, mg_49_11, mg_49_12, mg_49_13, mg_49_14, mg_49_15, mg_49_16, mg_49_17, mg_49_18, mg_49_19, mg_49_20, mg_49_21, mg_49_22, mg_49_23, mg_49_24, mg_49_25, if_true, m_man mv k, e, zcI_some]
  by_cases b1 : b < 0
  · refine both (v := (-1)) (h1 := (zmk r c c c2 I J Q N A U V X S t)) (h2 := (zmk r c c c2 I J Q N A U V X S t)) ?_ ?_ (st_mk iv t1 t2)
    · simp only [E_X5_man_0, mo_0, mg_0_0, mg_0_1, mg_0_2, mg_0_3, mg_0_4, mg_0_5, mg_0_6, mg_0_7, mg_0_8, mg_0_9, mg_0_10, mg_0_11, Option.bind_some, (hC ..).1, if_true, cr_man (hC ..), e, i01, if_false, b1, zcI_some]
    · simp only [E_X6_man_0, mo_49, mg_49_0, mg_49_1, mg_49_2, mg_49_3, mg_49_4, mg_49_5, mg_49_6, mg_49_7, mg_49_8, mg_49_9, mg_49_10, mg_49_11, mg_49_12, mg_49_13, mg_49_14, mg_49_15, mg_49_16, mg_49_17, mg_49_18, mg_49_19, mg_49_20, mg_49_21, mg_49_22, mg_49_23, mg_49_24, mg_49_25, if_true, m_man mv k, e, i01, if_false, m_in r _ b 0 5 (l := 0) (k := 5) rfl rfl, zbw, b1, zcI_some]
  by_cases b2 : b < 6
  · have b3 : ¬ (5 : Int32) < b := fun q => by
      have h1 := Int32.lt_iff_toInt_lt.mp b2
      have h2 := Int32.lt_iff_toInt_lt.mp q
      rw [show (6 : Int32).toInt = 6 by decide] at h1
      rw [show (5 : Int32).toInt = 5 by decide] at h2
      omega
    have es : sMan C (fun m => X 0 (1 + m)) (fun m => X 0 (7 + m)) (fun m => X 0 (13 + m)) m b = sMan C N.1 N.2.2.1 N.2.2.2 m b := by
      unfold sMan
      rw [(no.2.2 m hm).1, (no.2.2 m hm).2.1, (no.2.2 m hm).2.2]
    refine both (v := 1) (h1 := (zmk r c c c2 (va_up I 0 (sMan C N.1 N.2.2.1 N.2.2.2 m b)) J Q N A U V X S t)) (h2 := (zmk r c c c2 (va_up I 0 (sMan C N.1 N.2.2.1 N.2.2.2 m b)) J Q N A (va_up U 2 (sMan C N.1 N.2.2.1 N.2.2.2 m b)) V X S t)) ?_ ?_ (st_mk (iv_tell _ iv) t1 t2)
    · simp only [E_X5_man_0, mo_0, mg_0_0, mg_0_1, mg_0_2, mg_0_3, mg_0_4, mg_0_5, mg_0_6, mg_0_7, mg_0_8, mg_0_9, mg_0_10, mg_0_11, mo_9, Option.bind_some, (hC ..).1, if_true, cr_man (hC ..), e, i01, if_false, b1, b2, b_man (nBx hC) k hm, k_tell, zcV_some, zcI_some]
    · simp only [E_X6_man_0, mo_49, mg_49_0, mg_49_1, mg_49_2, mg_49_3, mg_49_4, mg_49_5, mg_49_6, mg_49_7, mg_49_8, mg_49_9, mg_49_10, mg_49_11, mg_49_12, mg_49_13, mg_49_14, mg_49_15, mg_49_16, mg_49_17, mg_49_18, mg_49_19, mg_49_20, mg_49_21, mg_49_22, mg_49_23, mg_49_24, mg_49_25, if_true, m_man mv k, e, i01, if_false, m_in r _ b 0 5 (l := 0) (k := 5) rfl rfl, zbw, b1, b3, m_told mv k hm, m_tell, zcI_some, es]
  · have b3 : (5 : Int32) < b := by
      refine Int32.lt_of_lt_of_le (show (5 : Int32) < 6 by decide) (Int32.not_lt.mp b2)
    refine both (v := (-1)) (h1 := (zmk r c c c2 I J Q N A U V X S t)) (h2 := (zmk r c c c2 I J Q N A U V X S t)) ?_ ?_ (st_mk iv t1 t2)
    · simp only [E_X5_man_0, mo_0, mg_0_0, mg_0_1, mg_0_2, mg_0_3, mg_0_4, mg_0_5, mg_0_6, mg_0_7, mg_0_8, mg_0_9, mg_0_10, mg_0_11, Option.bind_some, (hC ..).1, if_true, cr_man (hC ..), e, i01, if_false, b1, b2, zcI_some]
    · simp only [E_X6_man_0, mo_49, mg_49_0, mg_49_1, mg_49_2, mg_49_3, mg_49_4, mg_49_5, mg_49_6, mg_49_7, mg_49_8, mg_49_9, mg_49_10, mg_49_11, mg_49_12, mg_49_13, mg_49_14, mg_49_15, mg_49_16, mg_49_17, mg_49_18, mg_49_19, mg_49_20, mg_49_21, mg_49_22, mg_49_23, mg_49_24, mg_49_25, if_true, m_man mv k, e, i01, if_false, m_in r _ b 0 5 (l := 0) (k := 5) rfl rfl, zbw, b1, b3, zcI_some]
theorem lk_hook (a b : Int32) {h : zH} (st : zSt r n h) : zBoth r n n (zev r i_X5_hook 0 [some (.ref (r.1 + 0)), some (.int a), some (.int b)] []) (zev r i_X6_hook 0 [some (.ref (r.1 + 49)), some (.int a), some (.int b)] []) h := by
  obtain ⟨C, c, c2, I, J, Q, N, A, U, V, X, S, t, rfl, iv, t1, t2⟩ := st
  obtain ⟨k, hC, mv, _, _, _, no, -⟩ := id iv
  have k7 := k.1
  rcases zhk_cases C.1 (by omega) a with e | ⟨e, m, hm, rfl⟩
  · refine both (v := (-1)) (h1 := (zmk r c c c2 I J Q N A U V X S t)) (h2 := (zmk r c c c2 I J Q N A U V X S t)) ?_ ?_ (st_mk iv t1 t2)
    · simp only [E_X5_hook_0, mo_0, mg_0_0, mg_0_1, mg_0_2, mg_0_3, mg_0_4, mg_0_5, mg_0_6, mg_0_7, mg_0_8, mg_0_9, mg_0_10, mg_0_11, Option.bind_some, (hC ..).1, if_true, cr_hook (hC ..), e, zcI_some]
    · simp only [E_X6_hook_0, mo_49, mg_49_0, mg_49_1, mg_49_2, mg_49_3, mg_49_4, mg_49_5, mg_49_6, mg_49_7, mg_49_8, mg_49_9, mg_49_10, mg_49_11, mg_49_12, mg_49_13, mg_49_14, mg_49_15, mg_49_16, mg_49_17, mg_49_18, mg_49_19, mg_49_20, mg_49_21, mg_49_22, mg_49_23, mg_49_24, mg_49_25, if_true, m_hook mv k, e, zcI_some]
  by_cases b1 : b < 0
  · refine both (v := (-1)) (h1 := (zmk r c c c2 I J Q N A U V X S t)) (h2 := (zmk r c c c2 I J Q N A U V X S t)) ?_ ?_ (st_mk iv t1 t2)
    · simp only [E_X5_hook_0, mo_0, mg_0_0, mg_0_1, mg_0_2, mg_0_3, mg_0_4, mg_0_5, mg_0_6, mg_0_7, mg_0_8, mg_0_9, mg_0_10, mg_0_11, Option.bind_some, (hC ..).1, if_true, cr_hook (hC ..), e, i01, if_false, b1, zcI_some]
    · simp only [E_X6_hook_0, mo_49, mg_49_0, mg_49_1, mg_49_2, mg_49_3, mg_49_4, mg_49_5, mg_49_6, mg_49_7, mg_49_8, mg_49_9, mg_49_10, mg_49_11, mg_49_12, mg_49_13, mg_49_14, mg_49_15, mg_49_16, mg_49_17, mg_49_18, mg_49_19, mg_49_20, mg_49_21, mg_49_22, mg_49_23, mg_49_24, mg_49_25, if_true, m_hook mv k, e, i01, if_false, m_in r _ b 0 1 (l := 0) (k := 1) rfl rfl, zbw, b1, zcI_some]
  by_cases b2 : b < 2
  · have b3 : ¬ (1 : Int32) < b := fun q => by
      have h1 := Int32.lt_iff_toInt_lt.mp b2
      have h2 := Int32.lt_iff_toInt_lt.mp q
      rw [show (2 : Int32).toInt = 2 by decide] at h1
      rw [show (1 : Int32).toInt = 1 by decide] at h2
      omega
    have es : sWho (fun m => X 0 (1 + m)) (nI m) 0 C.2.1 = N.2.1 m := who_g no.1 k (fun q hq => ((no.2.2 q hq).1).symm) hm
    have ep : X 1 = C.2.2.1 := mv.2.2.1
    refine both (v := 1) (h1 := (zmk r c c c2 (va_up I 0 (if b = 0 then C.2.2.1 m else N.2.1 m)) J Q N A U V X S t)) (h2 := (zmk r c c c2 (va_up I 0 (if b = 0 then C.2.2.1 m else N.2.1 m)) J Q N A (va_up U 2 (if b = 0 then C.2.2.1 m else N.2.1 m)) V X S t)) ?_ ?_ (st_mk (iv_tell _ iv) t1 t2)
    · simp only [E_X5_hook_0, mo_0, mg_0_0, mg_0_1, mg_0_2, mg_0_3, mg_0_4, mg_0_5, mg_0_6, mg_0_7, mg_0_8, mg_0_9, mg_0_10, mg_0_11, mo_9, Option.bind_some, (hC ..).1, if_true, cr_hook (hC ..), e, i01, if_false, b1, b2, b_hook (nBx hC) k hm, k_tell, zcV_some, zcI_some]
    · by_cases b0 : b = 0
      · simp only [E_X6_hook_0, mo_49, mg_49_0, mg_49_1, mg_49_2, mg_49_3, mg_49_4, mg_49_5, mg_49_6, mg_49_7, mg_49_8, mg_49_9, mg_49_10, mg_49_11, mg_49_12, mg_49_13, mg_49_14, mg_49_15, mg_49_16, mg_49_17, mg_49_18, mg_49_19, mg_49_20, mg_49_21, mg_49_22, mg_49_23, mg_49_24, mg_49_25, if_true, m_hook mv k, e, i01, if_false, m_in r _ b 0 1 (l := 0) (k := 1) rfl rfl, zbw, b1, b3, if_pos b0, Option.bind_some, ma_51 (show m < 7 by omega), m_tell, zcI_some, ep]
      · simp only [E_X6_hook_0, mo_49, mg_49_0, mg_49_1, mg_49_2, mg_49_3, mg_49_4, mg_49_5, mg_49_6, mg_49_7, mg_49_8, mg_49_9, mg_49_10, mg_49_11, mg_49_12, mg_49_13, mg_49_14, mg_49_15, mg_49_16, mg_49_17, mg_49_18, mg_49_19, mg_49_20, mg_49_21, mg_49_22, mg_49_23, mg_49_24, mg_49_25, if_true, m_hook mv k, e, i01, if_false, m_in r _ b 0 1 (l := 0) (k := 1) rfl rfl, zbw, b1, b3, if_neg b0, m_who mv k, m_tell, zcI_some, es]
  · have b3 : (1 : Int32) < b := by
      refine Int32.lt_of_lt_of_le (show (1 : Int32) < 2 by decide) (Int32.not_lt.mp b2)
    refine both (v := (-1)) (h1 := (zmk r c c c2 I J Q N A U V X S t)) (h2 := (zmk r c c c2 I J Q N A U V X S t)) ?_ ?_ (st_mk iv t1 t2)
    · simp only [E_X5_hook_0, mo_0, mg_0_0, mg_0_1, mg_0_2, mg_0_3, mg_0_4, mg_0_5, mg_0_6, mg_0_7, mg_0_8, mg_0_9, mg_0_10, mg_0_11, Option.bind_some, (hC ..).1, if_true, cr_hook (hC ..), e, i01, if_false, b1, b2, zcI_some]
    · simp only [E_X6_hook_0, mo_49, mg_49_0, mg_49_1, mg_49_2, mg_49_3, mg_49_4, mg_49_5, mg_49_6, mg_49_7, mg_49_8, mg_49_9, mg_49_10, mg_49_11, mg_49_12, mg_49_13, mg_49_14, mg_49_15, mg_49_16, mg_49_17, mg_49_18, mg_49_19, mg_49_20, mg_49_21, mg_49_22, mg_49_23, mg_49_24, mg_49_25, if_true, m_hook mv k, e, i01, if_false, m_in r _ b 0 1 (l := 0) (k := 1) rfl rfl, zbw, b1, b3, zcI_some]
theorem lk_neighbours (a w : Int32) {h : zH} (st : zSt r n h) : zBoth r n n (zev r i_X5_neighbours 0 [some (.ref (r.1 + 0)), some (.int a), some (.int w)] []) (zev r i_X6_neighbours 0 [some (.ref (r.1 + 49)), some (.int a), some (.int w)] []) h := by
  obtain ⟨C, c, c2, I, J, Q, N, A, U, V, X, S, t, rfl, iv, t1, t2⟩ := st
  obtain ⟨k, hC, mv, _, _, _, no, -⟩ := id iv
  rcases zhk_cases C.2.1 (by have := k.2.1; omega) a with e | ⟨e, m, hm, rfl⟩
  · refine both (v := (-1)) (h1 := (zmk r c c c2 I J Q N A U V X S t)) (h2 := (zmk r c c c2 I J Q N A U V X S t)) ?_ ?_ (st_mk iv t1 t2)
    · simp only [E_X5_neighbours_0, mo_0, mg_0_0, mg_0_1, mg_0_2, mg_0_3, mg_0_4, mg_0_5, mg_0_6, mg_0_7, mg_0_8, mg_0_9, mg_0_10, mg_0_11, Option.bind_some, (hC ..).1, if_true, cr_man (hC ..), e, zcI_some]
    · simp only [E_X6_neighbours_0, mo_49, mg_49_0, mg_49_1, mg_49_2, mg_49_3, mg_49_4, mg_49_5, mg_49_6, mg_49_7, mg_49_8, mg_49_9, mg_49_10, mg_49_11, mg_49_12, mg_49_13, mg_49_14, mg_49_15, mg_49_16, mg_49_17, mg_49_18, mg_49_19, mg_49_20, mg_49_21, mg_49_22, mg_49_23, mg_49_24, mg_49_25, if_true, m_man mv k, e, zcI_some]
  rcases zhk_cases 3 (by decide) w with f | ⟨f, w, hw, rfl⟩
  · refine both (v := (-1)) (h1 := (zmk r c c c2 I J Q N A U V X S t)) (h2 := (zmk r c c c2 I J Q N A U V X S t)) ?_ ?_ (st_mk iv t1 t2)
    · simp only [E_X5_neighbours_0, mo_0, mg_0_0, mg_0_1, mg_0_2, mg_0_3, mg_0_4, mg_0_5, mg_0_6, mg_0_7, mg_0_8, mg_0_9, mg_0_10, mg_0_11, Option.bind_some, (hC ..).1, if_true, cr_man (hC ..), e, i01, if_false, k_when, f, zcI_some]
    · simp only [E_X6_neighbours_0, mo_49, mg_49_0, mg_49_1, mg_49_2, mg_49_3, mg_49_4, mg_49_5, mg_49_6, mg_49_7, mg_49_8, mg_49_9, mg_49_10, mg_49_11, mg_49_12, mg_49_13, mg_49_14, mg_49_15, mg_49_16, mg_49_17, mg_49_18, mg_49_19, mg_49_20, mg_49_21, mg_49_22, mg_49_23, mg_49_24, mg_49_25, if_true, m_man mv k, e, i01, if_false, m_when, f, zcI_some]
  · refine both (v := (sBe C N.1 m (nI w))) (h1 := (zmk r c c c2 I J Q N A U V X S t)) (h2 := (zmk r c c c2 I J Q N A U V X (zNw X S) t)) ?_ ?_ (st_mk iv t1 t2)
    · simp only [E_X5_neighbours_0, mo_0, mg_0_0, mg_0_1, mg_0_2, mg_0_3, mg_0_4, mg_0_5, mg_0_6, mg_0_7, mg_0_8, mg_0_9, mg_0_10, mg_0_11, mo_9, Option.bind_some, (hC ..).1, if_true, cr_man (hC ..), e, i01, if_false, k_when, f, b_neigh (nBx hC) k no.1 hm, zcI_some]
    · simp only [E_X6_neighbours_0, mo_49, mg_49_0, mg_49_1, mg_49_2, mg_49_3, mg_49_4, mg_49_5, mg_49_6, mg_49_7, mg_49_8, mg_49_9, mg_49_10, mg_49_11, mg_49_12, mg_49_13, mg_49_14, mg_49_15, mg_49_16, mg_49_17, mg_49_18, mg_49_19, mg_49_20, mg_49_21, mg_49_22, mg_49_23, mg_49_24, mg_49_25, if_true, m_man mv k, e, i01, if_false, m_when, f, m_now, zcV_some, m_beside mv k hm, zcI_some, sBe_c hm (now_h k no)]
theorem lk_woken (E : zEk r) (a w : Int32) {h : zH} (st : zSt r n h) : zBoth r n n (zev r i_X5_woken 0 [some (.ref (r.1 + 0)), some (.int a), some (.int w)] []) (zev r i_X6_woken 0 [some (.ref (r.1 + 49)), some (.int a), some (.int w)] []) h := by
  obtain ⟨C, c, c2, I, J, Q, N, A, U, V, X, S, t, rfl, iv, t1, t2⟩ := st
  obtain ⟨k, hC, mv, _, _, _, no, -⟩ := id iv
  rcases zhk_cases C.2.1 (by have := k.2.1; omega) a with e | ⟨e, m, hm, rfl⟩
  · refine both (v := (-1)) (h1 := (zmk r c c c2 I J Q N A U V X S t)) (h2 := (zmk r c c c2 I J Q N A U V X S t)) ?_ ?_ (st_mk iv t1 t2)
    · simp only [E_X5_woken_0, mo_0, mg_0_0, mg_0_1, mg_0_2, mg_0_3, mg_0_4, mg_0_5, mg_0_6, mg_0_7, mg_0_8, mg_0_9, mg_0_10, mg_0_11, Option.bind_some, (hC ..).1, if_true, cr_man (hC ..), e, zcI_some]
    · simp only [E_X6_woken_0, mo_49, mg_49_0, mg_49_1, mg_49_2, mg_49_3, mg_49_4, mg_49_5, mg_49_6, mg_49_7, mg_49_8, mg_49_9, mg_49_10, mg_49_11, mg_49_12, mg_49_13, mg_49_14, mg_49_15, mg_49_16, mg_49_17, mg_49_18, mg_49_19, mg_49_20, mg_49_21, mg_49_22, mg_49_23, mg_49_24, mg_49_25, if_true, m_man mv k, e, zcI_some]
  rcases zhk_cases 3 (by decide) w with f | ⟨f, w, hw, rfl⟩
  · refine both (v := (-1)) (h1 := (zmk r c c c2 I J Q N A U V X S t)) (h2 := (zmk r c c c2 I J Q N A U V X S t)) ?_ ?_ (st_mk iv t1 t2)
    · simp only [E_X5_woken_0, mo_0, mg_0_0, mg_0_1, mg_0_2, mg_0_3, mg_0_4, mg_0_5, mg_0_6, mg_0_7, mg_0_8, mg_0_9, mg_0_10, mg_0_11, Option.bind_some, (hC ..).1, if_true, cr_man (hC ..), e, i01, if_false, k_when, f, zcI_some]
    · simp only [E_X6_woken_0, mo_49, mg_49_0, mg_49_1, mg_49_2, mg_49_3, mg_49_4, mg_49_5, mg_49_6, mg_49_7, mg_49_8, mg_49_9, mg_49_10, mg_49_11, mg_49_12, mg_49_13, mg_49_14, mg_49_15, mg_49_16, mg_49_17, mg_49_18, mg_49_19, mg_49_20, mg_49_21, mg_49_22, mg_49_23, mg_49_24, mg_49_25, if_true, m_man mv k, e, i01, if_false, m_when, f, zcI_some]
  · refine both (v := (sWo C N.1 N.2.2.1 m (nI w) (-9))) (h1 := (zmk r c c c2 I J Q N A U V X S t)) (h2 := (zmk r c c c2 I J Q N A U V X (zNw X S) t)) ?_ ?_ (st_mk iv t1 t2)
    · simp only [E_X5_woken_0, mo_0, mg_0_0, mg_0_1, mg_0_2, mg_0_3, mg_0_4, mg_0_5, mg_0_6, mg_0_7, mg_0_8, mg_0_9, mg_0_10, mg_0_11, mo_9, Option.bind_some, (hC ..).1, if_true, cr_man (hC ..), e, i01, if_false, k_when, f, b_wak (nBx hC) k E no.2.1 no.1 hm, zcI_some]
    · simp only [E_X6_woken_0, mo_49, mg_49_0, mg_49_1, mg_49_2, mg_49_3, mg_49_4, mg_49_5, mg_49_6, mg_49_7, mg_49_8, mg_49_9, mg_49_10, mg_49_11, mg_49_12, mg_49_13, mg_49_14, mg_49_15, mg_49_16, mg_49_17, mg_49_18, mg_49_19, mg_49_20, mg_49_21, mg_49_22, mg_49_23, mg_49_24, mg_49_25, if_true, m_man mv k, e, i01, if_false, m_when, f, m_now, zcV_some, m_woken mv k hm (now_v k no m hm), zcI_some, sWo_c hm (now_h k no) (now_l k no)]
theorem lk_all (E : zEk r) (w : Int32) {h : zH} (st : zSt r n h) : zBoth r n n (zev r i_X5_all 0 [some (.ref (r.1 + 0)), some (.int w)] []) (zev r i_X6_all 0 [some (.ref (r.1 + 49)), some (.int w)] []) h := by
  obtain ⟨C, c, c2, I, J, Q, N, A, U, V, X, S, t, rfl, iv, t1, t2⟩ := st
  obtain ⟨k, hC, mv, _, _, _, no, -⟩ := id iv
  rcases zhk_cases 3 (by decide) w with f | ⟨f, w, hw, rfl⟩
  · refine both (v := (-1)) (h1 := (zmk r c c c2 I J Q N A U V X S t)) (h2 := (zmk r c c c2 I J Q N A U V X S t)) ?_ ?_ (st_mk iv t1 t2)
    · simp only [E_X5_all_0, k_when, f, if_true, zcI_some]
    · simp only [E_X6_all_0, m_when, f, if_true, zcI_some]
  · refine both (v := (sAll C N.1 N.2.2.1 (nI w))) (h1 := (zmk r c c c2 (va_up I 0 (sMany C N.1 (nI w))) J Q N A U V X S t)) (h2 := (zmk r c c c2 (va_up I 0 (sMany C N.1 (nI w))) J Q N A (va_up U 2 (sMany C N.1 (nI w))) V X (zNw X S) t)) ?_ ?_ (st_mk (iv_tell _ iv) t1 t2)
    · simp only [E_X5_all_0, mo_0, mg_0_0, mg_0_1, mg_0_2, mg_0_3, mg_0_4, mg_0_5, mg_0_6, mg_0_7, mg_0_8, mg_0_9, mg_0_10, mg_0_11, mo_9, Option.bind_some, if_true, i01, if_false, k_when, f, b_many (nBx hC) k, k_tell, zcV_some, b_all (nBx hC) k E no.2.1 no.1, zcI_some]
    · have mv2 : zMv C (va_up U 2 (sMany C N.1 (nI w))) X := zMv_c mv (va_ne (by decide)) (va_ne (by decide)) rfl rfl rfl rfl
      simp only [E_X6_all_0, mo_49, mg_49_0, mg_49_1, mg_49_2, mg_49_3, mg_49_4, mg_49_5, mg_49_6, mg_49_7, mg_49_8, mg_49_9, mg_49_10, mg_49_11, mg_49_12, mg_49_13, mg_49_14, mg_49_15, mg_49_16, mg_49_17, mg_49_18, mg_49_19, mg_49_20, mg_49_21, mg_49_22, mg_49_23, mg_49_24, mg_49_25, if_true, i01, if_false, m_when, f, m_now, zcV_some, m_many mv k, zcI_some, sMany_c (now_h k no), mp_49_11, Option.bind_some, m_all mv2 k (now_v k no), sAll_c (now_h k no) (now_l k no)]
theorem lk_worst (E : zEk r) (w : Int32) {h : zH} (st : zSt r n h) : zBoth r n n (zev r i_X5_worst 0 [some (.ref (r.1 + 0)), some (.int w), none, none, none, none] []) (zev r i_X6_worst 0 [some (.ref (r.1 + 49)), some (.int w), none, none, none, none] []) h := by
  obtain ⟨C, c, c2, I, J, Q, N, A, U, V, X, S, t, rfl, iv, t1, t2⟩ := st
  obtain ⟨k, hC, mv, _, _, _, no, -⟩ := id iv
  rcases zhk_cases 3 (by decide) w with f | ⟨f, w, hw, rfl⟩
  · refine both (v := (-1)) (h1 := (zmk r c c c2 I J Q N A U V X S t)) (h2 := (zmk r c c c2 I J Q N A U V X S t)) ?_ ?_ (st_mk iv t1 t2)
    · simp only [E_X5_worst_0, k_when, f, if_true, zcI_some]
    · simp only [E_X6_worst_0, m_when, f, if_true, zcI_some]
  have hv : ∀ s : Int32 × Int32, ∃ q : Int32 × Int32, q = zfd (fun (s : Int32 × Int32) m => if sIn C N.1 m (nI w) = 0 then s else if s.2 < sWo C N.1 N.2.2.1 m (nI w) (-9) then (nI m, sWo C N.1 N.2.2.1 m (nI w) (-9)) else s) 0 C.2.1 s := fun s => ⟨_, rfl⟩
  obtain ⟨q, hq⟩ := hv (-9, -1)
  have e1 : zev r i_X5_worst 0 [some (.ref (r.1 + 0)), some (.int (nI w)), none, none, none, none] [] (zmk r c c c2 I J Q N A U V X S t) = some (some (.int q.1), if q.1 = -9 then (zmk r c c c2 I J Q N A U V X S t) else (zmk r c c c2 (va_up I 0 q.2) J Q N A U V X S t)) := by
    simp only [E_X5_worst_0, k_when, f, i01, if_false, zcI_some]
    have := zloop (fun j (s : Int32 × Int32) => zev r i_X5_worst 17 [some (.ref (r.1 + 0)), some (.int (nI w)), some (.int s.1), some (.int s.2), some (.int (nI j)), none] [] (zmk r c c c2 I J Q N A U V X S t)) (fun s => some (some (.int s.1), if s.1 = -9 then (zmk r c c c2 I J Q N A U V X S t) else (zmk r c c c2 (va_up I 0 s.2) J Q N A U V X S t))) (fun (s : Int32 × Int32) m => if sIn C N.1 m (nI w) = 0 then s else if s.2 < sWo C N.1 N.2.2.1 m (nI w) (-9) then (nI m, sWo C N.1 N.2.2.1 m (nI w) (-9)) else s) C.2.1 (fun j s hj => by
      refine (E_X5_worst_17 ..).trans ?_
      simp only [mo_0, mg_0_0, mg_0_1, mg_0_2, mg_0_3, mg_0_4, mg_0_5, mg_0_6, mg_0_7, mg_0_8, mg_0_9, mg_0_10, mg_0_11, mo_9, (hC ..).2.2.1, Option.bind_some, if_pos (nI_lt6 k hj), if_true, b_wak (nBx hC) k E no.2.1 no.1 hj, b_in (nBx hC) k hj, zcI_some, nI_1]
      split
      · rfl
      · split <;> rfl) (fun s => by
      refine (E_X5_worst_17 ..).trans ?_
      simp only [mo_0, mg_0_0, mg_0_1, mg_0_2, mg_0_3, mg_0_4, mg_0_5, mg_0_6, mg_0_7, mg_0_8, mg_0_9, mg_0_10, mg_0_11, (hC ..).2.2.1, Option.bind_some, if_neg (nI_nlt6 k), if_true, k_tell, zcV_some]
      split <;> rfl) (-9, -1)
    rw [← hq] at this
    exact this
  have e2 : ∀ (c0 c1 : Nat) (I : zA), zev r i_X6_worst 0 [some (.ref (r.1 + 49)), some (.int (nI w)), none, none, none, none] [] (zmk r c0 c1 c2 I J Q N A U V X S t) = some (some (.int q.1), (zmk r c0 c1 c2 I J Q N A (va_up U 2 (if q.1 = -9 then U 2 else q.2)) V X (zNw X S) t)) := by
    intro c0 c1 I
    simp only [E_X6_worst_0, mo_49, mg_49_0, mg_49_1, mg_49_2, mg_49_3, mg_49_4, mg_49_5, mg_49_6, mg_49_7, mg_49_8, mg_49_9, mg_49_10, mg_49_11, mg_49_12, mg_49_13, mg_49_14, mg_49_15, mg_49_16, mg_49_17, mg_49_18, mg_49_19, mg_49_20, mg_49_21, mg_49_22, mg_49_23, mg_49_24, mg_49_25, m_when, f, i01, if_false, if_true, m_now, zcI_some, zcV_some]
    have := zloopP (fun _ (s : Int32 × Int32) => -1 ≤ s.2) (fun j (s : Int32 × Int32) => zev r i_X6_worst 21 [some (.ref (r.1 + 49)), some (.int (nI w)), some (.int s.1), some (.int s.2), some (.int (nI j)), none] [] (zmk r c0 c1 c2 I J Q N A U V X (zNw X S) t)) (fun s => some (some (.int s.1), (zmk r c0 c1 c2 I J Q N A (va_up U 2 (if s.1 = -9 then U 2 else s.2)) V X (zNw X S) t))) (fun (s : Int32 × Int32) m => if sIn C N.1 m (nI w) = 0 then s else if s.2 < sWo C N.1 N.2.2.1 m (nI w) (-9) then (nI m, sWo C N.1 N.2.2.1 m (nI w) (-9)) else s) C.2.1 (fun j s hj p => by
      refine ⟨(E_X6_worst_21 ..).trans ?_, ?_⟩
      · simp only [mo_49, mg_49_0, mg_49_1, mg_49_2, mg_49_3, mg_49_4, mg_49_5, mg_49_6, mg_49_7, mg_49_8, mg_49_9, mg_49_10, mg_49_11, mg_49_12, mg_49_13, mg_49_14, mg_49_15, mg_49_16, mg_49_17, mg_49_18, mg_49_19, mg_49_20, mg_49_21, mg_49_22, mg_49_23, mg_49_24, mg_49_25, Option.bind_some, if_pos (m_lt mv k hj), if_true, m_isin mv k hj, m_woken mv k hj (now_v k no j hj), zcI_some, sWo_c hj (now_h k no) (now_l k no), sIn_c (now_h k no j hj), E_X6_worst_53, nI_1]
        by_cases z : sIn C N.1 j (nI w) = 0
        · simp only [z, if_true, if_neg (Int32.not_lt.mpr p)]
        · simp only [z, if_false]
          by_cases z2 : s.2 < sWo C N.1 N.2.2.1 j (nI w) (-9)
          · simp only [z2, if_true]
          · simp only [z2, if_false]
      · split
        · exact p
        · split
          · rename_i z; exact Int32.le_of_lt (Int32.lt_of_le_of_lt p z)
          · exact p) (fun s p => by
      refine (E_X6_worst_21 ..).trans ?_
      simp only [mo_49, mg_49_0, mg_49_1, mg_49_2, mg_49_3, mg_49_4, mg_49_5, mg_49_6, mg_49_7, mg_49_8, mg_49_9, mg_49_10, mg_49_11, mg_49_12, mg_49_13, mg_49_14, mg_49_15, mg_49_16, mg_49_17, mg_49_18, mg_49_19, mg_49_20, mg_49_21, mg_49_22, mg_49_23, mg_49_24, mg_49_25, Option.bind_some, if_neg (m_nlt mv k), mp_49_11]
      split <;> rfl) (-9, -1) (by decide)
    rw [← hq] at this
    exact this.1
  by_cases z : q.1 = -9
  · rw [if_pos z] at e1
    have e3 := e2 c c I
    rw [if_pos z, va_self] at e3
    exact both e1 e3 (st_mk iv t1 t2)
  · rw [if_neg z] at e1
    have e3 := e2 c c (va_up I 0 q.2)
    rw [if_neg z] at e3
    exact both e1 e3 (st_mk (iv_tell _ iv) t1 t2)
end NOW
