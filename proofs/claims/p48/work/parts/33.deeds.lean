/-! DEEDS: the log, the calls -/
section DEEDS
variable {r : zE} {c0 c1 c2 : Nat} {I : Nat → Int32} {J : Nat → Int64} {Q : Nat → Nat → Int32} {N A : zBr} {Ga Va : Nat → Int32} {t : zH} {C : zCs} {c n d : Nat}
theorem nI_0' : (0 : Int32) = nI 0 := rfl
theorem g_room (hd : I 2 = nI d) (h6 : d ≤ 60) {k : Nat} (hk : k ≤ 60) : zev r i_X2_hasRoomFor 0 [some (.ref (r.1 + 19)), some (.int (nI k))] [] (zmk r c0 c1 c2 I J Q N A Ga Va t) = some (some (.int (if 60 < d + k then 0 else 1)), zmk r c0 c1 c2 I J Q N A Ga Va t) := by
  have e : (60 : Int32) - nI d = nI (60 - d) := pk_sub (a := 60) h6
  simp only [E_X2_hasRoomFor_0, mg_19_1, Option.bind_some, hd, e]
  by_cases h : 60 < d + k
  · rw [if_pos (nI_lt (by omega) (by omega)), if_pos h]
  · rw [if_neg (nI_nlt (by omega) (by omega)), if_neg h]
def zWr (f : zA) (N : zBr) (b : Nat) : zA := va_cpy N.2.2.2 (va_cpy N.2.2.1 (va_cpy N.1 f 0 b 6) 0 (b + 6) 6) 0 (b + 12) 6
theorem zWr_h (f : zA) (N : zBr) (b : Nat) {m : Nat} (h : m < 6) : zWr f N b (b + m) = N.1 m := by
  unfold zWr va_cpy
  rw [if_neg (by omega), if_neg (by omega), if_pos (by omega), show 0 + (b + m - b) = m by omega]
theorem zWr_l (f : zA) (N : zBr) (b : Nat) {m : Nat} (h : m < 6) : zWr f N b (b + (6 + m)) = N.2.2.1 m := by
  unfold zWr va_cpy
  rw [if_neg (by omega), if_pos (by omega), show 0 + (b + (6 + m) - (b + 6)) = m by omega]
theorem zWr_t (f : zA) (N : zBr) (b : Nat) {m : Nat} (h : m < 6) : zWr f N b (b + (12 + m)) = N.2.2.2 m := by
  unfold zWr va_cpy
  rw [if_pos (by omega), show 0 + (b + (12 + m) - (b + 12)) = m by omega]
theorem zWr_o (f : zA) (N : zBr) (b : Nat) {i : Nat} (h : i < b ∨ b + 18 ≤ i) : zWr f N b i = f i := by
  unfold zWr va_cpy
  rw [if_neg (by omega), if_neg (by omega), if_neg (by omega)]
theorem g_write {b : Nat} (hb : b + 18 ≤ 1098) : zev r i_X0_writeTo 0 [some (.ref (r.1 + 9)), some (.ref (r.1 + 20)), some (.int (nI b))] [] (zmk r c0 c1 c2 I J Q N A Ga Va t) = some (none, (zmk r c0 c1 c2 I J (va_up Q 9 (zWr (Q 9) N b)) N A Ga Va t)) := by
  have e6 : (6 : Int32) = nI 6 := rfl
  have e1 : nI b + 6 = nI (b + 6) := nI_add b 6
  have e2 : nI b + 12 = nI (b + 12) := nI_add b 12
  have p1 : zcp r (zmk r c0 c1 c2 I J Q N A Ga Va t) (r.1 + 10) 0 (r.1 + 20) (nI b) 6 = some (zmk r c0 c1 c2 I J (va_up Q 9 (va_cpy N.1 (Q 9) 0 b 6)) N A Ga Va t) := by
    rw [nI_0', e6, zcp_of mc_10 mc_20 (by decide) (by omega) (by decide) (by decide), ms_20]
  have p2 : ∀ f : zA, zcp r (zmk r c0 c1 c2 I J (va_up Q 9 f) N A Ga Va t) (r.1 + 12) 0 (r.1 + 20) (nI (b + 6)) 6 = some (zmk r c0 c1 c2 I J (va_up Q 9 (va_cpy N.2.2.1 f 0 (b + 6) 6)) N A Ga Va t) := fun f => by
    rw [nI_0', e6, zcp_of mc_12 mc_20 (by decide) (by omega) (by decide) (by decide), ms_20, va_same, bx_uu]
  have p3 : ∀ f : zA, zcp r (zmk r c0 c1 c2 I J (va_up Q 9 f) N A Ga Va t) (r.1 + 13) 0 (r.1 + 20) (nI (b + 12)) 6 = some (zmk r c0 c1 c2 I J (va_up Q 9 (va_cpy N.2.2.2 f 0 (b + 12) 6)) N A Ga Va t) := fun f => by
    rw [nI_0', e6, zcp_of mc_13 mc_20 (by decide) (by omega) (by decide) (by decide), ms_20, va_same, bx_uu]
  have q2 : ¬ nI 1098 - 18 < nI b := by
    rw [show (18 : Int32) = nI 18 from rfl, pk_sub (by decide)]
    exact nI_nlt (by omega) (by decide)
  simp only [E_X0_writeTo_0, if_neg (nI_pos (show b < 2 ^ 31 by omega)), mn_20, Option.bind_some, nI_of0, if_neg q2, mg_9_1, mg_9_3, mg_9_4, p1, e1, e2, p2, p3]
  rfl
theorem g_add (hd : I 2 = nI d) (h6 : d < 60) : zev r i_X2_add 0 [some (.ref (r.1 + 19)), some (.ref (r.1 + 9))] [] (zmk r c0 c1 c2 I J Q N A Ga Va t) = some (none, (zmk r c0 c1 c2 (va_up I 2 (nI (d + 1))) J (va_up Q 9 (zWr (Q 9) N (18 * (d + 1)))) N A Ga Va t)) := by
  have e1 := g_room (r := r) (c0 := c0) (c1 := c1) (c2 := c2) (J := J) (Q := Q) (N := N) (A := A) (Ga := Ga) (Va := Va) (t := t) hd (by omega) (k := 1) (by decide)
  rw [if_neg (show ¬ 60 < d + 1 by omega)] at e1
  have e2 : nI (d + 1) * 18 = nI (18 * (d + 1)) := by rw [show (18 : Int32) = nI 18 from rfl, pk_mul, Nat.mul_comm]
  simp only [E_X2_add_0, mo_19, if_true, show (1 : Int32) = nI 1 from rfl, e1, zcI_some]
  simp only [show ¬ nI 1 = 0 by decide, if_false, mg_19_1, mg_19_0, Option.bind_some, hd, nI_add, mp_19_1, va_same, mo_9, if_true, e2, g_write (show 18 * (d + 1) + 18 ≤ 1098 by omega), zcV_some]
theorem g_room1 (hd : I 2 = nI d) (h6 : d ≤ 60) : zev r i_X2_hasRoomFor 0 [some (.ref (r.1 + 19)), some (.int 1)] [] (zmk r c0 c1 c2 I J Q N A Ga Va t) = some (some (.int (if d = 60 then 0 else 1)), zmk r c0 c1 c2 I J Q N A Ga Va t) := by
  have := g_room (r := r) (c0 := c0) (c1 := c1) (c2 := c2) (J := J) (Q := Q) (N := N) (A := A) (Ga := Ga) (Va := Va) (t := t) hd h6 (k := 1) (by decide)
  refine this.trans ?_
  by_cases e : d = 60
  · rw [if_pos (by omega), if_pos e]
  · rw [if_neg (by omega), if_neg e]
def ySw (H : zA) (m q : Nat) : zA := upd (upd H q (H m)) m (H q)
end DEEDS
section CALLS3
variable {r : zE} {C : zCs} {d : Nat} {M : Nat → zDk} {K : Nat → Option (Nat × (Nat → zDk))} {W Tx : Nat → Option (List Int32)} {ta : Int32} {tu tl : Int64} {Ga Va : zA} {n : Nat} {h : zH}
theorem pa_add {C : zCs} {d : Nat} {P : zA} {M : Nat → zDk} {N' : zBr} {D' : zDk} (hp : zPa C d P M) (h6 : d < 60) (k2 : C.2.1 ≤ 6) (e : zDe C N' D') (ok : zOk C D') : zPa C (d + 1) (zWr P N' (18 * (d + 1))) (va_up M (d + 1) D') := by
  refine ⟨by omega, fun j hj => ?_⟩
  by_cases z : j = d + 1
  · subst z
    rw [va_same]
    refine ⟨ok, fun m hm => ?_⟩
    obtain ⟨e1, e2, e3⟩ := e m hm
    rw [zWr_h _ _ _ (show m < 6 by omega), zWr_l _ _ _ (show m < 6 by omega), zWr_t _ _ _ (show m < 6 by omega)]
    exact ⟨e1, e2, e3⟩
  · rw [va_ne z]
    obtain ⟨o, b⟩ := hp.2 j (by omega)
    refine ⟨o, fun m hm => ?_⟩
    rw [zWr_o _ _ _ (by omega), zWr_o _ _ _ (by omega), zWr_o _ _ _ (by omega)]
    exact b m hm
theorem iv_deed {r : zE} {C : zCs} {d : Nat} {M : Nat → zDk} {K : Nat → Option (Nat × (Nat → zDk))} {W Tx : Nat → Option (List Int32)} {ta : Int32} {tu tl : Int64} {c : Nat} {I : zA} {J : Nat → Int64} {Q : Nat → zA} {N : zBr} {t : zH} (iv : zIw r C d M K W Tx ta tu tl c I J Q N t) (h6 : d < 60) (N' : zBr) (D' : zDk) (g : zCG C N'.1 N'.2.1) (e : zDe C N' D') (l : zL1 C D'.2.1) (x : zT9 C D'.2.2) : zIw r C (d + 1) (va_up M (d + 1) D') K W Tx ta tu tl c (va_up I 2 (nI (d + 1))) J (va_up Q 9 (zWr (Q 9) N' (18 * (d + 1)))) (N') t := by
  have k := iv.1
  refine iv_log iv (d + 1) (va_up M (d + 1) D') _ N' (pa_add iv.2.2.2.2.2.1 h6 k.2.1 e ⟨vi_c (fun m hm => ((e m hm).1).symm) (cg_vi k g), l, x⟩) g ?_
  rw [va_same]
  exact e
theorem st_ok (st : zSt r C d M K W Tx ta tu tl Ga Va n h) : zOk C (M d) := by
  obtain ⟨c, c2, I, J, Q, N, A, t, rfl, iv, t1, t2⟩ := st
  exact (iv.2.2.2.2.2.1.2 d (Nat.le_refl _)).1
theorem ck_hang {m j : Nat} (hm : m < C.2.1) (hj : j < C.1) (fr : ∀ q, q < C.2.1 → ¬ (M d).1 q = nI j) (h6 : d < 60) (st : zSt r C d M K W Tx ta tu tl Ga Va n h) : ∃ h', zev r i_X5_hang 0 [some (.ref (r.1 + 0)), some (.int (nI m)), some (.int (nI j))] [] h = some (some (.int (nI j)), h') ∧ zSt r C (d + 1) (va_up M (d + 1) (upd (M d).1 m (nI j), (M d).2.1, (M d).2.2)) K W Tx ta tu tl Ga Va n h' := by
  have ok := st_ok st
  obtain ⟨c, c2, I, J, Q, N, A, t, rfl, iv, t1, t2⟩ := st
  obtain ⟨k, hC, no, de, hd, -⟩ := id iv
  have k1 := k.1
  have k2 := k.2.1
  have g_room1 := @g_room1
  have e : zhk C.2.1 (nI m) = 1 := zhk_in hm (by omega)
  have f : zhk C.1 (nI j) = 1 := zhk_in hj (by omega)
  have fw : N.2.1 j = -9 := cg_free k no.1 hj fun q hq => by rw [de_h de q hq]; exact fr q hq
  have z : ¬ d = 60 := by omega
  obtain ⟨G', e1, c1⟩ := b_move (nBx (c0 := c) (c2 := c2) (I := I) (J := J) (Q := Q) (A := A) (Ga := Ga) (Va := Va) hC) k (B := N) no.1 hm (h := nI j) (.inl (.inr ⟨j, hj, rfl, fw⟩))
  refine ⟨(zmk r c c c2 (va_up I 2 (nI (d + 1))) J (va_up Q 9 (zWr (Q 9) (upd N.1 m (nI j), G', N.2.2.1, N.2.2.2) (18 * (d + 1)))) ((upd N.1 m (nI j), G', N.2.2.1, N.2.2.2)) A Ga Va t), ?_, st_mk (iv_deed iv h6 (upd N.1 m (nI j), G', N.2.2.1, N.2.2.2) (upd (M d).1 m (nI j), (M d).2.1, (M d).2.2) c1 (fun q hq => ⟨?_, (de q hq).2⟩) ok.2.1 ok.2.2) t1 t2⟩
  · simp only [E_X5_hang_0, mo_0, mg_0_0, mg_0_1, mg_0_2, mg_0_3, mg_0_4, mg_0_5, mg_0_6, mg_0_7, mg_0_8, mg_0_9, mg_0_10, mg_0_11, mo_9, mo_19, Option.bind_some, (hC ..).1, if_true, cr_man (hC ..), cr_hook (hC ..), e, f, i01, if_false, b_free (nBx hC) k, nI_clamp (show j < 2 ^ 31 by omega), fw, g_room1 hd (show d ≤ 60 by omega), z, zcI_some, e1, zcV_some, g_add hd h6]
  · show upd N.1 m (nI j) q = upd (M d).1 m (nI j) q
    by_cases y : q = m
    · subst y; rw [upd_s, upd_s]
    · rw [upd_n y, upd_n y, de_h de q hq]
theorem ck_hang_no {m j q : Nat} (hm : m < C.2.1) (hj : j < C.1) (hq : q < C.2.1) (eq : (M d).1 q = nI j) (st : zSt r C d M K W Tx ta tu tl Ga Va n h) : zev r i_X5_hang 0 [some (.ref (r.1 + 0)), some (.int (nI m)), some (.int (nI j))] [] h = some (some (.int (-4)), h) := by
  obtain ⟨c, c2, I, J, Q, N, A, t, rfl, iv, t1, t2⟩ := st
  obtain ⟨k, hC, no, de, hd, -⟩ := id iv
  have k1 := k.1
  have k2 := k.2.1
  have e : zhk C.2.1 (nI m) = 1 := zhk_in hm (by omega)
  have f : zhk C.1 (nI j) = 1 := zhk_in hj (by omega)
  have fw : ¬ N.2.1 j = -9 := by
    rcases no.1.1 q hq with y | ⟨j2, a1, a2, a3⟩
    · exact absurd ((eq.symm.trans (de_h de q hq).symm).trans y) (nI_n9 (by omega))
    · have : j2 = j := (nI_eq (by omega) (by omega)).mp ((a2.symm.trans (de_h de q hq)).trans eq)
      subst this
      rw [a3]
      exact nI_n9 (by omega)
  simp only [E_X5_hang_0, mo_0, mg_0_0, mg_0_1, mg_0_2, mg_0_3, mg_0_4, mg_0_5, mg_0_6, mg_0_7, mg_0_8, mg_0_9, mg_0_10, mg_0_11, mo_9, Option.bind_some, (hC ..).1, if_true, cr_man (hC ..), cr_hook (hC ..), e, f, i01, if_false, b_free (nBx hC) k, nI_clamp (show j < 2 ^ 31 by omega), fw, zcI_some]
theorem ck_down {m : Nat} (hm : m < C.2.1) (hh : ¬ (M d).1 m = -9) (h6 : d < 60) (st : zSt r C d M K W Tx ta tu tl Ga Va n h) : ∃ h', zev r i_X5_down 0 [some (.ref (r.1 + 0)), some (.int (nI m)), none] [] h = some (some (.int ((M d).1 m)), h') ∧ zSt r C (d + 1) (va_up M (d + 1) (upd (M d).1 m (-9), (M d).2.1, (M d).2.2)) K W Tx ta tu tl Ga Va n h' := by
  have ok := st_ok st
  obtain ⟨c, c2, I, J, Q, N, A, t, rfl, iv, t1, t2⟩ := st
  obtain ⟨k, hC, no, de, hd, -⟩ := id iv
  have k2 := k.2.1
  have g_room1 := @g_room1
  have e : zhk C.2.1 (nI m) = 1 := zhk_in hm (by omega)
  have m6 : m < 6 := by omega
  rw [← de_h de m hm] at hh ⊢
  have z : ¬ d = 60 := by omega
  obtain ⟨G', e1, c1⟩ := b_move (nBx (c0 := c) (c2 := c2) (I := I) (J := J) (Q := Q) (A := A) (Ga := Ga) (Va := Va) hC) k (B := N) no.1 hm (h := -9) (.inl (.inl rfl))
  refine ⟨(zmk r c c c2 (va_up I 2 (nI (d + 1))) J (va_up Q 9 (zWr (Q 9) (upd N.1 m (-9), G', N.2.2.1, N.2.2.2) (18 * (d + 1)))) ((upd N.1 m (-9), G', N.2.2.1, N.2.2.2)) A Ga Va t), ?_, st_mk (iv_deed iv h6 (upd N.1 m (-9), G', N.2.2.1, N.2.2.2) (upd (M d).1 m (-9), (M d).2.1, (M d).2.2) c1 (fun q hq => ⟨?_, (de q hq).2⟩) ok.2.1 ok.2.2) t1 t2⟩
  · simp only [E_X5_down_0, mo_0, mg_0_0, mg_0_1, mg_0_2, mg_0_3, mg_0_4, mg_0_5, mg_0_6, mg_0_7, mg_0_8, mg_0_9, mg_0_10, mg_0_11, mo_9, mg_9_1, ma_10 m6, mo_19, Option.bind_some, (hC ..).1, if_true, cr_man (hC ..), e, i01, if_false, b_hangs (nBx hC) m6, hh, g_room1 hd (show d ≤ 60 by omega), z, zcI_some, e1, zcV_some, g_add hd h6]
  · show upd N.1 m (-9) q = upd (M d).1 m (-9) q
    by_cases y : q = m
    · subst y; rw [upd_s, upd_s]
    · rw [upd_n y, upd_n y, de_h de q hq]
theorem ck_down_no {m : Nat} (hm : m < C.2.1) (hh : (M d).1 m = -9) (st : zSt r C d M K W Tx ta tu tl Ga Va n h) : zev r i_X5_down 0 [some (.ref (r.1 + 0)), some (.int (nI m)), none] [] h = some (some (.int (-4)), h) := by
  obtain ⟨c, c2, I, J, Q, N, A, t, rfl, iv, t1, t2⟩ := st
  obtain ⟨k, hC, no, de, hd, -⟩ := id iv
  have k2 := k.2.1
  have e : zhk C.2.1 (nI m) = 1 := zhk_in hm (by omega)
  have m6 : m < 6 := by omega
  rw [← de_h de m hm] at hh
  simp only [E_X5_down_0, mo_0, mg_0_0, mg_0_1, mg_0_2, mg_0_3, mg_0_4, mg_0_5, mg_0_6, mg_0_7, mg_0_8, mg_0_9, mg_0_10, mg_0_11, mo_9, Option.bind_some, (hC ..).1, if_true, cr_man (hC ..), e, i01, if_false, b_hangs (nBx hC) m6, hh, zcI_some]
theorem ck_change_same {m : Nat} (hm : m < C.2.1) (st : zSt r C d M K W Tx ta tu tl Ga Va n h) : zev r i_X5_change 0 [some (.ref (r.1 + 0)), some (.int (nI m)), some (.int (nI m))] [] h = some (some (.int (-1)), h) := by
  obtain ⟨c, c2, I, J, Q, N, A, t, rfl, iv, t1, t2⟩ := st
  obtain ⟨k, hC, no, de, hd, -⟩ := id iv
  have k2 := k.2.1
  have e : zhk C.2.1 (nI m) = 1 := zhk_in hm (by omega)
  simp only [E_X5_change_0, mo_0, mg_0_0, mg_0_1, mg_0_2, mg_0_3, mg_0_4, mg_0_5, mg_0_6, mg_0_7, mg_0_8, mg_0_9, mg_0_10, mg_0_11, Option.bind_some, (hC ..).1, if_true, cr_man (hC ..), e, i01, if_false, zcI_some]
theorem ck_change_no {m q : Nat} (hm : m < C.2.1) (hq : q < C.2.1) (u : m ≠ q) (h1 : (M d).1 m = -9) (h2 : (M d).1 q = -9) (st : zSt r C d M K W Tx ta tu tl Ga Va n h) : zev r i_X5_change 0 [some (.ref (r.1 + 0)), some (.int (nI m)), some (.int (nI q))] [] h = some (some (.int (-4)), h) := by
  obtain ⟨c, c2, I, J, Q, N, A, t, rfl, iv, t1, t2⟩ := st
  obtain ⟨k, hC, no, de, hd, -⟩ := id iv
  have k2 := k.2.1
  have e : zhk C.2.1 (nI m) = 1 := zhk_in hm (by omega)
  have f : zhk C.2.1 (nI q) = 1 := zhk_in hq (by omega)
  have m6 : m < 6 := by omega
  have q6 : q < 6 := by omega
  have u1 : ¬ nI m = nI q := fun z => u ((nI_eq (by omega) (by omega)).mp z)
  rw [← de_h de m hm] at h1
  rw [← de_h de q hq] at h2
  simp only [E_X5_change_0, mo_0, mg_0_0, mg_0_1, mg_0_2, mg_0_3, mg_0_4, mg_0_5, mg_0_6, mg_0_7, mg_0_8, mg_0_9, mg_0_10, mg_0_11, mo_9, Option.bind_some, (hC ..).1, if_true, cr_man (hC ..), e, f, i01, if_false, u1, b_hangs (nBx hC) m6, b_hangs (nBx hC) q6, h1, h2, zcI_some]
theorem ck_change {m q : Nat} (hm : m < C.2.1) (hq : q < C.2.1) (u : m ≠ q) (hh : ¬ ((M d).1 m = -9 ∧ (M d).1 q = -9)) (h6 : d < 60) (st : zSt r C d M K W Tx ta tu tl Ga Va n h) : ∃ h', zev r i_X5_change 0 [some (.ref (r.1 + 0)), some (.int (nI m)), some (.int (nI q))] [] h = some (some (.int 1), h') ∧ zSt r C (d + 1) (va_up M (d + 1) (ySw (M d).1 m q, (M d).2.1, (M d).2.2)) K W Tx ta tu tl Ga Va n h' := by
  have ok := st_ok st
  obtain ⟨c, c2, I, J, Q, N, A, t, rfl, iv, t1, t2⟩ := st
  obtain ⟨k, hC, no, de, hd, -⟩ := id iv
  have k2 := k.2.1
  have g_room1 := @g_room1
  have e : zhk C.2.1 (nI m) = 1 := zhk_in hm (by omega)
  have f : zhk C.2.1 (nI q) = 1 := zhk_in hq (by omega)
  have m6 : m < 6 := by omega
  have q6 : q < 6 := by omega
  have u1 : ¬ nI m = nI q := fun z => u ((nI_eq (by omega) (by omega)).mp z)
  rw [← de_h de m hm, ← de_h de q hq] at hh
  have z : ¬ d = 60 := by omega
  have g1 : zev r i_X5_change 0 [some (.ref (r.1 + 0)), some (.int (nI m)), some (.int (nI q))] [] (zmk r c c c2 I J Q N A Ga Va t) = zev r i_X5_change 54 [some (.ref (r.1 + 0)), some (.int (nI m)), some (.int (nI q))] [] (zmk r c c c2 I J Q N A Ga Va t) := by
    by_cases w1 : N.1 m = -9
    · have w2 : ¬ N.1 q = -9 := fun z => hh ⟨w1, z⟩
      simp only [E_X5_change_0, mo_0, mg_0_0, mg_0_1, mg_0_2, mg_0_3, mg_0_4, mg_0_5, mg_0_6, mg_0_7, mg_0_8, mg_0_9, mg_0_10, mg_0_11, mo_9, Option.bind_some, (hC ..).1, if_true, cr_man (hC ..), e, f, i01, if_false, u1, b_hangs (nBx hC) m6, b_hangs (nBx hC) q6, w1, w2, zcI_some]
    · simp only [E_X5_change_0, mo_0, mg_0_0, mg_0_1, mg_0_2, mg_0_3, mg_0_4, mg_0_5, mg_0_6, mg_0_7, mg_0_8, mg_0_9, mg_0_10, mg_0_11, mo_9, Option.bind_some, (hC ..).1, if_true, cr_man (hC ..), e, f, i01, if_false, u1, b_hangs (nBx hC) m6, w1, zcI_some]
  obtain ⟨G', e1, c1⟩ := b_swap (nBx (c0 := c) (c2 := c2) (I := I) (J := J) (Q := Q) (A := A) (Ga := Ga) (Va := Va) hC) k (B := N) no.1 hm hq u
  refine ⟨(zmk r c c c2 (va_up I 2 (nI (d + 1))) J (va_up Q 9 (zWr (Q 9) (upd (upd N.1 q (N.1 m)) m (N.1 q), G', N.2.2.1, N.2.2.2) (18 * (d + 1)))) ((upd (upd N.1 q (N.1 m)) m (N.1 q), G', N.2.2.1, N.2.2.2)) A Ga Va t), ?_, st_mk (iv_deed iv h6 (upd (upd N.1 q (N.1 m)) m (N.1 q), G', N.2.2.1, N.2.2.2) (ySw (M d).1 m q, (M d).2.1, (M d).2.2) c1 (fun p hp => ⟨?_, (de p hp).2⟩) ok.2.1 ok.2.2) t1 t2⟩
  · rw [g1]
    simp only [E_X5_change_54, mo_0, mg_0_0, mg_0_1, mg_0_2, mg_0_3, mg_0_4, mg_0_5, mg_0_6, mg_0_7, mg_0_8, mg_0_9, mg_0_10, mg_0_11, mo_9, mo_19, Option.bind_some, if_true, g_room1 hd (show d ≤ 60 by omega), z, i01, if_false, zcI_some, e1, zcV_some, g_add hd h6]
  · show upd (upd N.1 q (N.1 m)) m (N.1 q) p = upd (upd (M d).1 q ((M d).1 m)) m ((M d).1 q) p
    rw [← de_h de m hm, ← de_h de q hq]
    by_cases y : p = m
    · subst y; rw [upd_s, upd_s]
    · rw [upd_n y, upd_n y]
      by_cases y2 : p = q
      · subst y2; rw [upd_s, upd_s]
      · rw [upd_n y2, upd_n y2, de_h de p hp]
theorem ck_line {m x : Nat} (hm : m < C.2.1) (x1 : 1 ≤ x) (x9 : x < 10) (hl : ¬ (M d).2.1 m = nI x) (h6 : d < 60) (st : zSt r C d M K W Tx ta tu tl Ga Va n h) : ∃ h', zev r i_X5_line 0 [some (.ref (r.1 + 0)), some (.int (nI m)), some (.int (nI x)), none] [] h = some (some (.int ((M d).2.1 m)), h') ∧ zSt r C (d + 1) (va_up M (d + 1) ((M d).1, upd (M d).2.1 m (nI x), (M d).2.2)) K W Tx ta tu tl Ga Va n h' := by
  have ok := st_ok st
  obtain ⟨c, c2, I, J, Q, N, A, t, rfl, iv, t1, t2⟩ := st
  obtain ⟨k, hC, no, de, hd, -⟩ := id iv
  have k2 := k.2.1
  have g_room1 := @g_room1
  have e : zhk C.2.1 (nI m) = 1 := zhk_in hm (by omega)
  have m6 : m < 6 := by omega
  have l1 : ¬ nI x < 1 := nI_nlt (b := 1) x1 (by omega)
  have l2 : ¬ (9 : Int32) < nI x := nI_nlt (a := 9) (by omega) (by decide)
  rw [← de_l de m hm] at hl ⊢
  have z : ¬ d = 60 := by omega
  refine ⟨(zmk r c c c2 (va_up I 2 (nI (d + 1))) J (va_up Q 9 (zWr (Q 9) (N.1, N.2.1, upd N.2.2.1 m (nI x), N.2.2.2) (18 * (d + 1)))) ((N.1, N.2.1, upd N.2.2.1 m (nI x), N.2.2.2)) A Ga Va t), ?_, st_mk (iv_deed iv h6 (N.1, N.2.1, upd N.2.2.1 m (nI x), N.2.2.2) ((M d).1, upd (M d).2.1 m (nI x), (M d).2.2) no.1 (fun q hq => ⟨(de q hq).1, ?_, (de q hq).2.2⟩) (fun q hq => ?_) ok.2.2) t1 t2⟩
  · simp only [E_X5_line_0, mo_0, mg_0_0, mg_0_1, mg_0_2, mg_0_3, mg_0_4, mg_0_5, mg_0_6, mg_0_7, mg_0_8, mg_0_9, mg_0_10, mg_0_11, mo_9, mg_9_3, ma_12 m6, mw_12 m6, mo_19, Option.bind_some, (hC ..).1, if_true, cr_man (hC ..), e, i01, if_false, l1, l2, hl, g_room1 hd (show d ≤ 60 by omega), z, zcI_some, zcV_some, g_add hd h6]
  · show upd N.2.2.1 m (nI x) q = upd (M d).2.1 m (nI x) q
    by_cases y : q = m
    · subst y; rw [upd_s, upd_s]
    · rw [upd_n y, upd_n y, de_l de q hq]
  · show ∃ a, 1 ≤ a ∧ a < 10 ∧ upd (M d).2.1 m (nI x) q = nI a
    by_cases y : q = m
    · subst y; rw [upd_s]; exact ⟨x, x1, x9, rfl⟩
    · rw [upd_n y]; exact ok.2.1 q hq
theorem ck_line_no {m x : Nat} (hm : m < C.2.1) (x1 : 1 ≤ x) (x9 : x < 10) (hl : (M d).2.1 m = nI x) (st : zSt r C d M K W Tx ta tu tl Ga Va n h) : zev r i_X5_line 0 [some (.ref (r.1 + 0)), some (.int (nI m)), some (.int (nI x)), none] [] h = some (some (.int (-4)), h) := by
  obtain ⟨c, c2, I, J, Q, N, A, t, rfl, iv, t1, t2⟩ := st
  obtain ⟨k, hC, no, de, hd, -⟩ := id iv
  have k2 := k.2.1
  have e : zhk C.2.1 (nI m) = 1 := zhk_in hm (by omega)
  have m6 : m < 6 := by omega
  have l1 : ¬ nI x < 1 := nI_nlt (b := 1) x1 (by omega)
  have l2 : ¬ (9 : Int32) < nI x := nI_nlt (a := 9) (by omega) (by decide)
  rw [← de_l de m hm] at hl
  simp only [E_X5_line_0, mo_0, mg_0_0, mg_0_1, mg_0_2, mg_0_3, mg_0_4, mg_0_5, mg_0_6, mg_0_7, mg_0_8, mg_0_9, mg_0_10, mg_0_11, mg_9_3, ma_12 m6, Option.bind_some, (hC ..).1, if_true, cr_man (hC ..), e, i01, if_false, l1, l2, hl, zcI_some]
end CALLS3
