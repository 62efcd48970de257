/-! ROWS AND TEXTS OF THE CLASS; the calls on them -/
section ROWS
variable {r : zE} {c0 c1 c2 : Nat} {I : Nat → Int32} {J : Nat → Int64} {Q : Nat → Nat → Int32} {N A : zBr} {Ga Va : Nat → Int32} {t : zH} {C : zCs} {c j : Nat}
theorem wr_miss (hj : j < 6) : zev r i_X4_isMissing 0 [some (.ref (r.1 + 23 + 2 * j))] [] (zmk r c0 c1 c2 I J Q N A Ga Va t) = some (some (.int (if I (6 + j) = -1 then 1 else 0)), zmk r c0 c1 c2 I J Q N A Ga Va t) := by
  simp only [E_X4_isMissing_0, mgs_r hj, Option.bind_some]
  split <;> rfl
theorem wr_has (hj : j < 6) {n : Nat} (hn : I (6 + j) = nI n) (i : Int32) : zev r i_X4_has 0 [some (.ref (r.1 + 23 + 2 * j)), some (.int i)] [] (zmk r c0 c1 c2 I J Q N A Ga Va t) = some (some (.int (zhk n i)), zmk r c0 c1 c2 I J Q N A Ga Va t) := by
  simp only [E_X4_has_0, mgs_r hj, Option.bind_some, hn, zhk]
  repeat' split
  all_goals rfl
theorem wr_get (hj : j < 6) {n : Nat} (hn : I (6 + j) = nI n) (h6 : n ≤ 60) (i : Int32) : zev r i_X4_get 0 [some (.ref (r.1 + 23 + 2 * j)), some (.int i)] [] (zmk r c0 c1 c2 I J Q N A Ga Va t) = some (some (.int (if zhk n i = 0 then 0 else Q (13 + j) i.toNatClampNeg)), zmk r c0 c1 c2 I J Q N A Ga Va t) := by
  simp only [E_X4_get_0, mo_r hj, if_true, wr_has hj hn, zcI_some]
  rcases zhk_cases n (by omega) i with e | ⟨e, k, hk, rfl⟩
  · simp only [e, if_true]
  · simp only [e, i01, if_false, mgv_r hj, Option.bind_some, mav_r hj (show k < 60 by omega), nI_clamp (show k < 2 ^ 31 by omega)]
theorem wr_set (hj : j < 6) {n k : Nat} (hn : I (6 + j) = nI n) (h6 : n ≤ 60) (hk : k < n) (v : Int32) : zev r i_X4_set 0 [some (.ref (r.1 + 23 + 2 * j)), some (.int (nI k)), some (.int v)] [] (zmk r c0 c1 c2 I J Q N A Ga Va t) = some (none, zmk r c0 c1 c2 I J (va_up Q (13 + j) (upd (Q (13 + j)) k v)) N A Ga Va t) := by
  simp only [E_X4_set_0, mo_r hj, if_true, wr_has hj hn, zcI_some, zhk_in hk (show n < 2 ^ 31 by omega), i01, if_false, mgv_r hj, Option.bind_some, mwv_r hj (show k < 60 by omega)]
theorem wr_fill (hj : j < 6) (v : Int32) : zev r i_J7_fill_53178 0 [some (.ref (r.1 + (24 + 2 * j))), some (.int v), none, none] [] (zmk r c0 c1 c2 I J Q N A Ga Va t) = some (none, zmk r c0 c1 c2 I J (va_up Q (13 + j) (fun i => if i < 60 then v else Q (13 + j) i)) N A Ga Va t) := by
  have := z_fill r (n := 60) (a := r.1 + (24 + 2 * j)) (fun f => zmk r c0 c1 c2 I J (va_up Q (13 + j) f) N A Ga Va t) (by decide) (fun f => mnv_r hj) (fun f k y hk => by rw [mwv_r hj hk, va_same, bx_uu]) (Q (13 + j)) v
  rwa [va_self] at this
theorem wr_renew (hj : j < 6) {n : Nat} (h6 : n ≤ 60) (v : Int32) : zev r i_X4_renew 0 [some (.ref (r.1 + 23 + 2 * j)), some (.int (nI n)), some (.int v)] [] (zmk r c0 c1 c2 I J Q N A Ga Va t) = some (none, zmk r c0 c1 c2 (va_up I (6 + j) (nI n)) J (va_up Q (13 + j) (fun i => if i < 60 then v else Q (13 + j) i)) N A Ga Va t) := by
  have e : (if (0 : Int32) < (if nI 60 < nI n then nI 60 else nI n) then (if nI 60 < nI n then nI 60 else nI n) else (0 : Int32)) = nI n := by
    rw [if_neg (nI_nlt h6 (show 60 < 2 ^ 31 by decide))]
    cases n with
    | zero => rfl
    | succ n => rw [if_pos (show (0 : Int32) < nI (n + 1) from nI_lt (a := 0) (Nat.succ_pos n) (by omega))]
  simp only [E_X4_renew_0, mgv_r hj, mnv_r hj, Option.bind_some, nI_of0, e, mps_r hj, wr_fill hj, zcV_some]
theorem wr_disc (hj : j < 6) : zev r i_X4_discard 0 [some (.ref (r.1 + 23 + 2 * j))] [] (zmk r c0 c1 c2 I J Q N A Ga Va t) = some (none, zmk r c0 c1 c2 (va_up I (6 + j) (-1)) J Q N A Ga Va t) := by
  simp only [E_X4_discard_0, mps_r hj, Option.bind_some]
theorem wr_dig (hj : j < 6) {n : Nat} (hn : I (6 + j) = nI n) (h6 : n ≤ 60) (g : Int64) : zev r i_X4_digestedOnto 0 [some (.ref (r.1 + 23 + 2 * j)), some (.long g), none, none, none, none] [] (zmk r c0 c1 c2 I J Q N A Ga Va t) = some (some (.long (zfd (fun a i => 31 * a + (Q (13 + j) i).toInt64) 0 n (31 * g + (nI n).toInt64))), zmk r c0 c1 c2 I J Q N A Ga Va t) := by
  simp only [E_X4_digestedOnto_0, mgs_r hj, Option.bind_some, hn]
  refine zloop (fun i (a : Int64) => zev r i_X4_digestedOnto 15 [some (.ref (r.1 + 23 + 2 * j)), some (.long g), none, some (.long a), none, some (.int (nI i))] [] (zmk r c0 c1 c2 I J Q N A Ga Va t)) (fun a => some (some (.long a), zmk r c0 c1 c2 I J Q N A Ga Va t)) _ n (fun i a hi => ?_) (fun a => ?_) _
  · refine (E_X4_digestedOnto_15 ..).trans ?_
    simp only [mgs_r hj, Option.bind_some, hn, if_pos (nI_lt hi (show n < 2 ^ 31 by omega)), mo_r hj, if_true, wr_get hj hn h6, zcI_some, zhk_in hi (show n < 2 ^ 31 by omega), i01, if_false, nI_clamp (show i < 2 ^ 31 by omega), nI_1]
  · refine (E_X4_digestedOnto_15 ..).trans ?_
    simp only [mgs_r hj, Option.bind_some, hn, if_neg (nI_nlt (Nat.le_refl n) (show n < 2 ^ 31 by omega))]
theorem wr_dig1 (hj : j < 6) (hn : I (6 + j) = -1) (g : Int64) : zev r i_X4_digestedOnto 0 [some (.ref (r.1 + 23 + 2 * j)), some (.long g), none, none, none, none] [] (zmk r c0 c1 c2 I J Q N A Ga Va t) = some (some (.long (31 * g + (-1 : Int32).toInt64)), zmk r c0 c1 c2 I J Q N A Ga Va t) := by
  simp only [E_X4_digestedOnto_0, mgs_r hj, Option.bind_some, hn]
  refine (E_X4_digestedOnto_15 ..).trans ?_
  simp only [mgs_r hj, Option.bind_some, hn, if_neg (show ¬ (0 : Int32) < -1 by decide)]
theorem wt_miss (hj : j < 4) : zev r i_X4_isMissing 0 [some (.ref (r.1 + 35 + 2 * j))] [] (zmk r c0 c1 c2 I J Q N A Ga Va t) = some (some (.int (if I (12 + j) = -1 then 1 else 0)), zmk r c0 c1 c2 I J Q N A Ga Va t) := by
  simp only [E_X4_isMissing_0, mgs_t hj, Option.bind_some]
  split <;> rfl
theorem wt_has (hj : j < 4) {n : Nat} (hn : I (12 + j) = nI n) (i : Int32) : zev r i_X4_has 0 [some (.ref (r.1 + 35 + 2 * j)), some (.int i)] [] (zmk r c0 c1 c2 I J Q N A Ga Va t) = some (some (.int (zhk n i)), zmk r c0 c1 c2 I J Q N A Ga Va t) := by
  simp only [E_X4_has_0, mgs_t hj, Option.bind_some, hn, zhk]
  repeat' split
  all_goals rfl
theorem wt_get (hj : j < 4) {n : Nat} (hn : I (12 + j) = nI n) (h6 : n ≤ 60) (i : Int32) : zev r i_X4_get 0 [some (.ref (r.1 + 35 + 2 * j)), some (.int i)] [] (zmk r c0 c1 c2 I J Q N A Ga Va t) = some (some (.int (if zhk n i = 0 then 0 else Q (19 + j) i.toNatClampNeg)), zmk r c0 c1 c2 I J Q N A Ga Va t) := by
  simp only [E_X4_get_0, mo_t hj, if_true, wt_has hj hn, zcI_some]
  rcases zhk_cases n (by omega) i with e | ⟨e, k, hk, rfl⟩
  · simp only [e, if_true]
  · simp only [e, i01, if_false, mgv_t hj, Option.bind_some, mav_t hj (show k < 60 by omega), nI_clamp (show k < 2 ^ 31 by omega)]
theorem wt_set (hj : j < 4) {n k : Nat} (hn : I (12 + j) = nI n) (h6 : n ≤ 60) (hk : k < n) (v : Int32) : zev r i_X4_set 0 [some (.ref (r.1 + 35 + 2 * j)), some (.int (nI k)), some (.int v)] [] (zmk r c0 c1 c2 I J Q N A Ga Va t) = some (none, zmk r c0 c1 c2 I J (va_up Q (19 + j) (upd (Q (19 + j)) k v)) N A Ga Va t) := by
  simp only [E_X4_set_0, mo_t hj, if_true, wt_has hj hn, zcI_some, zhk_in hk (show n < 2 ^ 31 by omega), i01, if_false, mgv_t hj, Option.bind_some, mwv_t hj (show k < 60 by omega)]
theorem wt_fill (hj : j < 4) (v : Int32) : zev r i_J7_fill_53178 0 [some (.ref (r.1 + (36 + 2 * j))), some (.int v), none, none] [] (zmk r c0 c1 c2 I J Q N A Ga Va t) = some (none, zmk r c0 c1 c2 I J (va_up Q (19 + j) (fun i => if i < 60 then v else Q (19 + j) i)) N A Ga Va t) := by
  have := z_fill r (n := 60) (a := r.1 + (36 + 2 * j)) (fun f => zmk r c0 c1 c2 I J (va_up Q (19 + j) f) N A Ga Va t) (by decide) (fun f => mnv_t hj) (fun f k y hk => by rw [mwv_t hj hk, va_same, bx_uu]) (Q (19 + j)) v
  rwa [va_self] at this
theorem wt_renew (hj : j < 4) {n : Nat} (h6 : n ≤ 60) (v : Int32) : zev r i_X4_renew 0 [some (.ref (r.1 + 35 + 2 * j)), some (.int (nI n)), some (.int v)] [] (zmk r c0 c1 c2 I J Q N A Ga Va t) = some (none, zmk r c0 c1 c2 (va_up I (12 + j) (nI n)) J (va_up Q (19 + j) (fun i => if i < 60 then v else Q (19 + j) i)) N A Ga Va t) := by
  have e : (if (0 : Int32) < (if nI 60 < nI n then nI 60 else nI n) then (if nI 60 < nI n then nI 60 else nI n) else (0 : Int32)) = nI n := by
    rw [if_neg (nI_nlt h6 (show 60 < 2 ^ 31 by decide))]
    cases n with
    | zero => rfl
    | succ n => rw [if_pos (show (0 : Int32) < nI (n + 1) from nI_lt (a := 0) (Nat.succ_pos n) (by omega))]
  simp only [E_X4_renew_0, mgv_t hj, mnv_t hj, Option.bind_some, nI_of0, e, mps_t hj, wt_fill hj, zcV_some]
theorem wt_disc (hj : j < 4) : zev r i_X4_discard 0 [some (.ref (r.1 + 35 + 2 * j))] [] (zmk r c0 c1 c2 I J Q N A Ga Va t) = some (none, zmk r c0 c1 c2 (va_up I (12 + j) (-1)) J Q N A Ga Va t) := by
  simp only [E_X4_discard_0, mps_t hj, Option.bind_some]
theorem wt_dig (hj : j < 4) {n : Nat} (hn : I (12 + j) = nI n) (h6 : n ≤ 60) (g : Int64) : zev r i_X4_digestedOnto 0 [some (.ref (r.1 + 35 + 2 * j)), some (.long g), none, none, none, none] [] (zmk r c0 c1 c2 I J Q N A Ga Va t) = some (some (.long (zfd (fun a i => 31 * a + (Q (19 + j) i).toInt64) 0 n (31 * g + (nI n).toInt64))), zmk r c0 c1 c2 I J Q N A Ga Va t) := by
  simp only [E_X4_digestedOnto_0, mgs_t hj, Option.bind_some, hn]
  refine zloop (fun i (a : Int64) => zev r i_X4_digestedOnto 15 [some (.ref (r.1 + 35 + 2 * j)), some (.long g), none, some (.long a), none, some (.int (nI i))] [] (zmk r c0 c1 c2 I J Q N A Ga Va t)) (fun a => some (some (.long a), zmk r c0 c1 c2 I J Q N A Ga Va t)) _ n (fun i a hi => ?_) (fun a => ?_) _
  · refine (E_X4_digestedOnto_15 ..).trans ?_
    simp only [mgs_t hj, Option.bind_some, hn, if_pos (nI_lt hi (show n < 2 ^ 31 by omega)), mo_t hj, if_true, wt_get hj hn h6, zcI_some, zhk_in hi (show n < 2 ^ 31 by omega), i01, if_false, nI_clamp (show i < 2 ^ 31 by omega), nI_1]
  · refine (E_X4_digestedOnto_15 ..).trans ?_
    simp only [mgs_t hj, Option.bind_some, hn, if_neg (nI_nlt (Nat.le_refl n) (show n < 2 ^ 31 by omega))]
theorem wt_dig1 (hj : j < 4) (hn : I (12 + j) = -1) (g : Int64) : zev r i_X4_digestedOnto 0 [some (.ref (r.1 + 35 + 2 * j)), some (.long g), none, none, none, none] [] (zmk r c0 c1 c2 I J Q N A Ga Va t) = some (some (.long (31 * g + (-1 : Int32).toInt64)), zmk r c0 c1 c2 I J Q N A Ga Va t) := by
  simp only [E_X4_digestedOnto_0, mgs_t hj, Option.bind_some, hn]
  refine (E_X4_digestedOnto_15 ..).trans ?_
  simp only [mgs_t hj, Option.bind_some, hn, if_neg (show ¬ (0 : Int32) < -1 by decide)]
end ROWS
section CALLS1
variable {r : zE} {C : zCs} {d : Nat} {M : Nat → zDk} {K : Nat → Option (Nat × (Nat → zDk))} {W Tx : Nat → Option (List Int32)} {ta : Int32} {tu tl : Int64} {Ga Va : zA} {n : Nat} {h : zH}
theorem st_ob (st : zSt r C d M K W Tx ta tu tl Ga Va n h) : zob r h (r.1 + 0) 5 = true := by
  obtain ⟨c, c2, I, J, Q, N, A, t, rfl, iv, t1, t2⟩ := st
  exact mo_0
theorem st_k (st : zSt r C d M K W Tx ta tu tl Ga Va n h) : zCk C := by
  obtain ⟨c, c2, I, J, Q, N, A, t, rfl, iv, t1, t2⟩ := st
  exact iv.1
theorem rw_some {s : Int32} {f : zA} {o : Option (List Int32)} {l : List Int32} {mx : Nat} (h : zRw s f o mx) (e : o = some l) : l.length ≤ mx ∧ s = nI l.length ∧ ∀ i, i < l.length → f i = l.getD i 0 := by
  subst e; exact h
theorem rw_none {s : Int32} {f : zA} {o : Option (List Int32)} {mx : Nat} (h : zRw s f o mx) (e : o = none) : s = -1 := by
  subst e; exact h
theorem getD_rep {k i : Nat} {v : Int32} (h : i < k) : (List.replicate k v).getD i 0 = v := by
  rw [List.getD_eq_getElem?_getD, List.getElem?_replicate, if_pos h]; rfl
theorem getD_setI {l : List Int32} {i : Nat} (hi : i < l.length) (v : Int32) (q : Nat) : (l.set i v).getD q 0 = if q = i then v else l.getD q 0 := by
  rw [List.getD_eq_getElem?_getD, List.getD_eq_getElem?_getD, List.getElem?_set]
  by_cases e : q = i
  · subst e; rw [if_pos rfl, if_pos hi, if_pos rfl]; rfl
  · rw [if_neg (Ne.symm e), if_neg e]
theorem ck_row {j k : Nat} (hj : j < 6) (hk : k ≤ 40) (st : zSt r C d M K W Tx ta tu tl Ga Va n h) : ∃ h', zev r i_X5_row 0 [some (.ref (r.1 + 0)), some (.int (nI j)), some (.int (nI k))] [] h = some (some (.int (nI k)), h') ∧ zSt r C d M K (va_up W j (some (List.replicate k 0))) Tx ta tu tl Ga Va n h' := by
  obtain ⟨c, c2, I, J, Q, N, A, t, rfl, iv, t1, t2⟩ := st
  have e : zhk 6 (nI j) = 1 := zhk_in hj (by decide)
  have b1 : ¬ (40 : Int32) < nI k := nI_nlt (b := k) (a := 40) hk (by decide)
  have b2 : ¬ nI k < 0 := nI_pos (by omega)
  refine ⟨(zmk r c c c2 (va_up I (6 + j) (nI k)) J (va_up Q (13 + j) (fun i => if i < 60 then 0 else Q (13 + j) i)) N A Ga Va t), ?_, st_mk (iv_row iv hj ⟨?_, ?_, fun i hi => ?_⟩) t1 t2⟩
  · simp only [E_X5_row_0, mo_0, mg_0_0, mg_0_1, mg_0_2, mg_0_3, mg_0_4, mg_0_5, mg_0_6, mg_0_7, mg_0_8, mg_0_9, mg_0_10, mg_0_11, if_true, k_rowAt, e, i01, if_false, zcQ_ref, nI_clamp (show j < 2 ^ 31 by omega), E_X5_renewed_0, if_neg b1, if_neg b2, zcI_some, mo_r hj, wr_renew hj (show k ≤ 60 by omega), zcV_some]
  · rw [List.length_replicate]; exact hk
  · rw [List.length_replicate]
  · rw [List.length_replicate] at hi
    rw [getD_rep hi]
    exact if_pos (by omega)
theorem ck_lay {j i : Nat} {l : List Int32} (v : Int32) (hj : j < 6) (hW : W j = some l) (hi : i < l.length) (st : zSt r C d M K W Tx ta tu tl Ga Va n h) : ∃ h', zev r i_X5_lay 0 [some (.ref (r.1 + 0)), some (.int (nI j)), some (.int (nI i)), some (.int v), none] [] h = some (some (.int 1), h') ∧ zSt r C d M K (va_up W j (some (l.set i v))) Tx (l.getD i 0) tu tl Ga Va n h' := by
  obtain ⟨c, c2, I, J, Q, N, A, t, rfl, iv, t1, t2⟩ := st
  obtain ⟨hm, s1, s3⟩ := rw_some (iv.2.2.2.2.2.2.2.1 j hj) hW
  have e : zhk 6 (nI j) = 1 := zhk_in hj (by decide)
  have e2 : zhk l.length (nI i) = 1 := zhk_in hi (by omega)
  have iv2 := iv_told (Q (13 + j) i) (iv_row iv hj (s := I (6 + j)) (f := upd (Q (13 + j)) i v) (o := some (l.set i v)) ⟨by rw [List.length_set]; exact hm, by rw [List.length_set]; exact s1, fun q hq => by
    rw [List.length_set] at hq
    rw [getD_setI hi]
    by_cases z : q = i
    · subst z; rw [if_pos rfl, pk_us]
    · rw [if_neg z, pk_un z]; exact s3 q hq⟩)
  rw [va_self] at iv2
  rw [← s3 i hi]
  refine ⟨(zmk r c c c2 (va_up I 0 (Q (13 + j) i)) J (va_up Q (13 + j) (upd (Q (13 + j)) i v)) N A Ga Va t), ?_, st_mk iv2 t1 t2⟩
  simp only [E_X5_lay_0, mo_0, mg_0_0, mg_0_1, mg_0_2, mg_0_3, mg_0_4, mg_0_5, mg_0_6, mg_0_7, mg_0_8, mg_0_9, mg_0_10, mg_0_11, if_true, k_rowAt, e, i01, if_false, zcQ_ref, nI_clamp (show j < 2 ^ 31 by omega), mo_r hj, wr_miss hj, s1, nI_m1 (show l.length < 2 ^ 31 by omega), zcI_some, wr_has hj s1, e2, wr_get hj s1 (show l.length ≤ 60 by omega), nI_clamp (show i < 2 ^ 31 by omega), k_tell, zcV_some]
  rw [wr_set hj (show va_up I 0 (Q (13 + j) i) (6 + j) = nI l.length by rw [va_ne (by omega), s1]) (by omega) hi]
  rfl
theorem ck_at {j i : Nat} {l : List Int32} (hj : j < 6) (hW : W j = some l) (hi : i < l.length) (st : zSt r C d M K W Tx ta tu tl Ga Va n h) : ∃ h', zev r i_X5_at 0 [some (.ref (r.1 + 0)), some (.int (nI j)), some (.int (nI i)), none] [] h = some (some (.int 1), h') ∧ zSt r C d M K W Tx (l.getD i 0) tu tl Ga Va n h' := by
  obtain ⟨c, c2, I, J, Q, N, A, t, rfl, iv, t1, t2⟩ := st
  obtain ⟨hm, s1, s3⟩ := rw_some (iv.2.2.2.2.2.2.2.1 j hj) hW
  have e : zhk 6 (nI j) = 1 := zhk_in hj (by decide)
  have e2 : zhk l.length (nI i) = 1 := zhk_in hi (by omega)
  rw [← s3 i hi]
  refine ⟨(zmk r c c c2 (va_up I 0 (Q (13 + j) i)) J Q N A Ga Va t), ?_, st_mk (iv_told _ iv) t1 t2⟩
  simp only [E_X5_at_0, mo_0, mg_0_0, mg_0_1, mg_0_2, mg_0_3, mg_0_4, mg_0_5, mg_0_6, mg_0_7, mg_0_8, mg_0_9, mg_0_10, mg_0_11, if_true, k_rowAt, e, i01, if_false, zcQ_ref, nI_clamp (show j < 2 ^ 31 by omega), mo_r hj, wr_miss hj, s1, nI_m1 (show l.length < 2 ^ 31 by omega), zcI_some, wr_has hj s1, e2, wr_get hj s1 (show l.length ≤ 60 by omega), nI_clamp (show i < 2 ^ 31 by omega), k_tell, zcV_some]
theorem ck_at_no {j i : Nat} {l : List Int32} (hj : j < 6) (hW : W j = some l) (hi : l.length ≤ i) (h31 : i < 2 ^ 31) (st : zSt r C d M K W Tx ta tu tl Ga Va n h) : ∃ h', zev r i_X5_at 0 [some (.ref (r.1 + 0)), some (.int (nI j)), some (.int (nI i)), none] [] h = some (some (.int (-3)), h') ∧ zSt r C d M K W Tx ta tu tl Ga Va n h' := by
  obtain ⟨c, c2, I, J, Q, N, A, t, rfl, iv, t1, t2⟩ := st
  obtain ⟨hm, s1, s3⟩ := rw_some (iv.2.2.2.2.2.2.2.1 j hj) hW
  have e : zhk 6 (nI j) = 1 := zhk_in hj (by decide)
  have e2 : zhk l.length (nI i) = 0 := zhk_out hi h31
  refine ⟨(zmk r c c c2 (va_up I 1 (nI 2)) J (va_up Q 0 (upd (Q 0) 2 (Q 0 2 + 1))) N A Ga Va t), ?_, st_mk (iv_found _ _ iv) t1 t2⟩
  have f2 : zev r i_X5_found 0 [some (.ref (r.1 + 0)), some (.int 2)] [] ((zmk r c c c2 I J Q N A Ga Va t)) = some (some (.int (-3)), (zmk r c c c2 (va_up I 1 (nI 2)) J (va_up Q 0 (upd (Q 0) 2 (Q 0 2 + 1))) N A Ga Va t)) := k_found (f := 2) (by decide) (by decide)
  simp only [E_X5_at_0, mo_0, mg_0_0, mg_0_1, mg_0_2, mg_0_3, mg_0_4, mg_0_5, mg_0_6, mg_0_7, mg_0_8, mg_0_9, mg_0_10, mg_0_11, if_true, k_rowAt, e, i01, if_false, zcQ_ref, nI_clamp (show j < 2 ^ 31 by omega), mo_r hj, wr_miss hj, s1, nI_m1 (show l.length < 2 ^ 31 by omega), zcI_some, wr_has hj s1, e2, f2]
theorem ck_tear {j : Nat} {l : List Int32} (hj : j < 6) (hW : W j = some l) (st : zSt r C d M K W Tx ta tu tl Ga Va n h) : ∃ h', zev r i_X5_tear 0 [some (.ref (r.1 + 0)), some (.int (nI j)), none] [] h = some (some (.int 1), h') ∧ zSt r C d M K (va_up W j none) Tx ta tu tl Ga Va n h' := by
  obtain ⟨c, c2, I, J, Q, N, A, t, rfl, iv, t1, t2⟩ := st
  obtain ⟨hm, s1, s3⟩ := rw_some (iv.2.2.2.2.2.2.2.1 j hj) hW
  have e : zhk 6 (nI j) = 1 := zhk_in hj (by decide)
  have iv2 := iv_row iv hj (s := -1) (f := Q (13 + j)) (o := none) rfl
  rw [va_self] at iv2
  refine ⟨(zmk r c c c2 (va_up I (6 + j) (-1)) J Q N A Ga Va t), ?_, st_mk iv2 t1 t2⟩
  simp only [E_X5_tear_0, mo_0, mg_0_0, mg_0_1, mg_0_2, mg_0_3, mg_0_4, mg_0_5, mg_0_6, mg_0_7, mg_0_8, mg_0_9, mg_0_10, mg_0_11, if_true, k_rowAt, e, i01, if_false, zcQ_ref, nI_clamp (show j < 2 ^ 31 by omega), mo_r hj, wr_miss hj, s1, nI_m1 (show l.length < 2 ^ 31 by omega), zcI_some, wr_disc hj, zcV_some]
theorem ck_text {j k : Nat} (hj : j < 4) (hk : k ≤ 60) (st : zSt r C d M K W Tx ta tu tl Ga Va n h) : ∃ h', zev r i_X5_text 0 [some (.ref (r.1 + 0)), some (.int (nI j)), some (.int (nI k))] [] h = some (some (.int (nI k)), h') ∧ zSt r C d M K W (va_up Tx j (some (List.replicate k 32))) ta tu tl Ga Va n h' := by
  obtain ⟨c, c2, I, J, Q, N, A, t, rfl, iv, t1, t2⟩ := st
  have e : zhk 4 (nI j) = 1 := zhk_in hj (by decide)
  have b1 : ¬ (60 : Int32) < nI k := nI_nlt (b := k) (a := 60) hk (by decide)
  have b2 : ¬ nI k < 0 := nI_pos (by omega)
  refine ⟨(zmk r c c c2 (va_up I (12 + j) (nI k)) J (va_up Q (19 + j) (fun i => if i < 60 then 32 else Q (19 + j) i)) N A Ga Va t), ?_, st_mk (iv_text iv hj ⟨?_, ?_, fun i hi => ?_⟩) t1 t2⟩
  · simp only [E_X5_text_0, mo_0, mg_0_0, mg_0_1, mg_0_2, mg_0_3, mg_0_4, mg_0_5, mg_0_6, mg_0_7, mg_0_8, mg_0_9, mg_0_10, mg_0_11, if_true, k_textAt, e, i01, if_false, zcQ_ref, nI_clamp (show j < 2 ^ 31 by omega), E_X5_renewed_0, if_neg b1, if_neg b2, zcI_some, mo_t hj, wt_renew hj (show k ≤ 60 by omega), zcV_some]
  · rw [List.length_replicate]; exact hk
  · rw [List.length_replicate]
  · rw [List.length_replicate] at hi
    rw [getD_rep hi]
    exact if_pos (by omega)
theorem ck_put {j i : Nat} {l : List Int32} (v : Int32) (hj : j < 4) (hW : Tx j = some l) (hi : i < l.length) (st : zSt r C d M K W Tx ta tu tl Ga Va n h) : ∃ h', zev r i_X5_put 0 [some (.ref (r.1 + 0)), some (.int (nI j)), some (.int (nI i)), some (.int v), none, none] [] h = some (some (.int (l.getD i 0 + 1000)), h') ∧ zSt r C d M K W (va_up Tx j (some (l.set i v.toInt8.toInt32))) ta tu tl Ga Va n h' := by
  obtain ⟨c, c2, I, J, Q, N, A, t, rfl, iv, t1, t2⟩ := st
  obtain ⟨hm, s1, s3⟩ := rw_some (iv.2.2.2.2.2.2.2.2.1 j hj) hW
  have e : zhk 4 (nI j) = 1 := zhk_in hj (by decide)
  have e2 : zhk l.length (nI i) = 1 := zhk_in hi (by omega)
  have iv2 := iv_text iv hj (s := I (12 + j)) (f := upd (Q (19 + j)) i v.toInt8.toInt32) (o := some (l.set i v.toInt8.toInt32)) ⟨by rw [List.length_set]; exact hm, by rw [List.length_set]; exact s1, fun q hq => by
    rw [List.length_set] at hq
    rw [getD_setI hi]
    by_cases z : q = i
    · subst z; rw [if_pos rfl, pk_us]
    · rw [if_neg z, pk_un z]; exact s3 q hq⟩
  rw [va_self] at iv2
  rw [← s3 i hi]
  refine ⟨(zmk r c c c2 I J (va_up Q (19 + j) (upd (Q (19 + j)) i v.toInt8.toInt32)) N A Ga Va t), ?_, st_mk iv2 t1 t2⟩
  simp only [E_X5_put_0, mo_0, mg_0_0, mg_0_1, mg_0_2, mg_0_3, mg_0_4, mg_0_5, mg_0_6, mg_0_7, mg_0_8, mg_0_9, mg_0_10, mg_0_11, if_true, k_textAt, e, i01, if_false, zcQ_ref, nI_clamp (show j < 2 ^ 31 by omega), mo_t hj, wt_miss hj, s1, nI_m1 (show l.length < 2 ^ 31 by omega), zcI_some, wt_has hj s1, e2, wt_get hj s1 (show l.length ≤ 60 by omega), nI_clamp (show i < 2 ^ 31 by omega), wt_set hj s1 (show l.length ≤ 60 by omega) hi, zcV_some]
/-- a call that tells asked(), upper(), lower() -/
theorem ck_asked (st : zSt r C d M K W Tx ta tu tl Ga Va n h) : zev r i_X5_asked 0 [some (.ref (r.1 + 0))] [] h = some (some (.int ta), h) := by
  obtain ⟨c, c2, I, J, Q, N, A, t, rfl, iv, t1, t2⟩ := st
  obtain ⟨-, -, -, -, -, -, -, -, -, e, -⟩ := iv
  simp only [E_X5_asked_0, mo_0, mg_0_0, mg_0_1, mg_0_2, mg_0_3, mg_0_4, mg_0_5, mg_0_6, mg_0_7, mg_0_8, mg_0_9, mg_0_10, mg_0_11, Option.bind_some, e]
theorem ck_upper (st : zSt r C d M K W Tx ta tu tl Ga Va n h) : zev r i_X5_upper 0 [some (.ref (r.1 + 0))] [] h = some (some (.long tu), h) := by
  obtain ⟨c, c2, I, J, Q, N, A, t, rfl, iv, t1, t2⟩ := st
  obtain ⟨-, -, -, -, -, -, -, -, -, -, e, -⟩ := iv
  simp only [E_X5_upper_0, mo_0, mg_0_0, mg_0_1, mg_0_2, mg_0_3, mg_0_4, mg_0_5, mg_0_6, mg_0_7, mg_0_8, mg_0_9, mg_0_10, mg_0_11, Option.bind_some, e]
theorem ck_lower (st : zSt r C d M K W Tx ta tu tl Ga Va n h) : zev r i_X5_lower 0 [some (.ref (r.1 + 0))] [] h = some (some (.long tl), h) := by
  obtain ⟨c, c2, I, J, Q, N, A, t, rfl, iv, t1, t2⟩ := st
  obtain ⟨-, -, -, -, -, -, -, -, -, -, -, e⟩ := iv
  simp only [E_X5_lower_0, mo_0, mg_0_0, mg_0_1, mg_0_2, mg_0_3, mg_0_4, mg_0_5, mg_0_6, mg_0_7, mg_0_8, mg_0_9, mg_0_10, mg_0_11, Option.bind_some, e]
end CALLS1
