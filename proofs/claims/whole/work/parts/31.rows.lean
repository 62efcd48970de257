/-! ROWS AND TEXTS OF THE CLASS -/
section ROWS
variable {r : zE} {c0 c1 c2 : Nat} {I : Nat → Int32} {J : Nat → Int64} {Q : Nat → Nat → Int32} {N A : zBr} {U : Nat → Int32} {V : Nat → Int64} {X : Nat → Nat → Int32} {S : zSs} {t : zH} {C : zCs} {c j : Nat}
theorem wr_miss (hj : j < 6) : zev r i_X4_isMissing 0 [some (.ref (r.1 + 23 + 2 * j))] [] (zmk r c0 c1 c2 I J Q N A U V X S t) = some (some (.int (if I (6 + j) = -1 then 1 else 0)), zmk r c0 c1 c2 I J Q N A U V X S t) := by
  simp only [E_X4_isMissing_0, mgs_r hj, Option.bind_some]
  split <;> rfl
theorem wr_has (hj : j < 6) {n : Nat} (hn : I (6 + j) = nI n) (i : Int32) : zev r i_X4_has 0 [some (.ref (r.1 + 23 + 2 * j)), some (.int i)] [] (zmk r c0 c1 c2 I J Q N A U V X S t) = some (some (.int (zhk n i)), zmk r c0 c1 c2 I J Q N A U V X S t) := by
  simp only [E_X4_has_0, mgs_r hj, Option.bind_some, hn, zhk]
  repeat' split
  all_goals rfl
theorem wr_get (hj : j < 6) {n : Nat} (hn : I (6 + j) = nI n) (h6 : n ≤ 60) (i : Int32) : zev r i_X4_get 0 [some (.ref (r.1 + 23 + 2 * j)), some (.int i)] [] (zmk r c0 c1 c2 I J Q N A U V X S t) = some (some (.int (if zhk n i = 0 then 0 else Q (13 + j) i.toNatClampNeg)), zmk r c0 c1 c2 I J Q N A U V X S t) := by
  simp only [E_X4_get_0, mo_r hj, if_true, wr_has hj hn, zcI_some]
  rcases zhk_cases n (by omega) i with e | ⟨e, k, hk, rfl⟩
  · simp only [e, if_true]
  · simp only [e, i01, if_false, mgv_r hj, Option.bind_some, mav_r hj (show k < 60 by omega), nI_clamp (show k < 2 ^ 31 by omega)]
theorem wr_set (hj : j < 6) {n k : Nat} (hn : I (6 + j) = nI n) (h6 : n ≤ 60) (hk : k < n) (v : Int32) : zev r i_X4_set 0 [some (.ref (r.1 + 23 + 2 * j)), some (.int (nI k)), some (.int v)] [] (zmk r c0 c1 c2 I J Q N A U V X S t) = some (none, zmk r c0 c1 c2 I J (va_up Q (13 + j) (upd (Q (13 + j)) k v)) N A U V X S t) := by
  simp only [E_X4_set_0, mo_r hj, if_true, wr_has hj hn, zcI_some, zhk_in hk (show n < 2 ^ 31 by omega), i01, if_false, mgv_r hj, Option.bind_some, mwv_r hj (show k < 60 by omega)]
theorem wr_fill (hj : j < 6) (v : Int32) : zev r i_J7_fill_53178 0 [some (.ref (r.1 + (24 + 2 * j))), some (.int v), none, none] [] (zmk r c0 c1 c2 I J Q N A U V X S t) = some (none, zmk r c0 c1 c2 I J (va_up Q (13 + j) (fun i => if i < 60 then v else Q (13 + j) i)) N A U V X S t) := by
  have := z_fill r (n := 60) (a := r.1 + (24 + 2 * j)) (fun f => zmk r c0 c1 c2 I J (va_up Q (13 + j) f) N A U V X S t) (by decide) (fun f => mnv_r hj) (fun f k y hk => by rw [mwv_r hj hk, va_same, bx_uu]) (Q (13 + j)) v
  rwa [va_self] at this
theorem wr_renew (hj : j < 6) {n : Nat} (h6 : n ≤ 60) (v : Int32) : zev r i_X4_renew 0 [some (.ref (r.1 + 23 + 2 * j)), some (.int (nI n)), some (.int v)] [] (zmk r c0 c1 c2 I J Q N A U V X S t) = some (none, zmk r c0 c1 c2 (va_up I (6 + j) (nI n)) J (va_up Q (13 + j) (fun i => if i < 60 then v else Q (13 + j) i)) N A U V X S t) := by
  have e : (if (0 : Int32) < (if nI 60 < nI n then nI 60 else nI n) then (if nI 60 < nI n then nI 60 else nI n) else (0 : Int32)) = nI n := by
    rw [if_neg (nI_nlt h6 (show 60 < 2 ^ 31 by decide))]
    cases n with
    | zero => rfl
    | succ n => rw [if_pos (show (0 : Int32) < nI (n + 1) from nI_lt (a := 0) (Nat.succ_pos n) (by omega))]
  simp only [E_X4_renew_0, mgv_r hj, mnv_r hj, Option.bind_some, nI_of0, e, mps_r hj, wr_fill hj, zcV_some]
theorem wr_disc (hj : j < 6) : zev r i_X4_discard 0 [some (.ref (r.1 + 23 + 2 * j))] [] (zmk r c0 c1 c2 I J Q N A U V X S t) = some (none, zmk r c0 c1 c2 (va_up I (6 + j) (-1)) J Q N A U V X S t) := by
  simp only [E_X4_discard_0, mps_r hj, Option.bind_some]
theorem wr_dig (hj : j < 6) {n : Nat} (hn : I (6 + j) = nI n) (h6 : n ≤ 60) (g : Int64) : zev r i_X4_digestedOnto 0 [some (.ref (r.1 + 23 + 2 * j)), some (.long g), none, none, none, none] [] (zmk r c0 c1 c2 I J Q N A U V X S t) = some (some (.long (zfd (fun a i => 31 * a + (Q (13 + j) i).toInt64) 0 n (31 * g + (nI n).toInt64))), zmk r c0 c1 c2 I J Q N A U V X S t) := by
  simp only [E_X4_digestedOnto_0, mgs_r hj, Option.bind_some, hn]
  refine zloop (fun i (a : Int64) => zev r i_X4_digestedOnto 15 [some (.ref (r.1 + 23 + 2 * j)), some (.long g), none, some (.long a), none, some (.int (nI i))] [] (zmk r c0 c1 c2 I J Q N A U V X S t)) (fun a => some (some (.long a), zmk r c0 c1 c2 I J Q N A U V X S t)) _ n (fun i a hi => ?_) (fun a => ?_) _
  · refine (E_X4_digestedOnto_15 ..).trans ?_
    simp only [mgs_r hj, Option.bind_some, hn, if_pos (nI_lt hi (show n < 2 ^ 31 by omega)), mo_r hj, if_true, wr_get hj hn h6, zcI_some, zhk_in hi (show n < 2 ^ 31 by omega), i01, if_false, nI_clamp (show i < 2 ^ 31 by omega), nI_1]
  · refine (E_X4_digestedOnto_15 ..).trans ?_
    simp only [mgs_r hj, Option.bind_some, hn, if_neg (nI_nlt (Nat.le_refl n) (show n < 2 ^ 31 by omega))]
theorem wr_dig1 (hj : j < 6) (hn : I (6 + j) = -1) (g : Int64) : zev r i_X4_digestedOnto 0 [some (.ref (r.1 + 23 + 2 * j)), some (.long g), none, none, none, none] [] (zmk r c0 c1 c2 I J Q N A U V X S t) = some (some (.long (31 * g + (-1 : Int32).toInt64)), zmk r c0 c1 c2 I J Q N A U V X S t) := by
  simp only [E_X4_digestedOnto_0, mgs_r hj, Option.bind_some, hn]
  refine (E_X4_digestedOnto_15 ..).trans ?_
  simp only [mgs_r hj, Option.bind_some, hn, if_neg (show ¬ (0 : Int32) < -1 by decide)]
theorem wt_miss (hj : j < 4) : zev r i_X4_isMissing 0 [some (.ref (r.1 + 35 + 2 * j))] [] (zmk r c0 c1 c2 I J Q N A U V X S t) = some (some (.int (if I (12 + j) = -1 then 1 else 0)), zmk r c0 c1 c2 I J Q N A U V X S t) := by
  simp only [E_X4_isMissing_0, mgs_t hj, Option.bind_some]
  split <;> rfl
theorem wt_has (hj : j < 4) {n : Nat} (hn : I (12 + j) = nI n) (i : Int32) : zev r i_X4_has 0 [some (.ref (r.1 + 35 + 2 * j)), some (.int i)] [] (zmk r c0 c1 c2 I J Q N A U V X S t) = some (some (.int (zhk n i)), zmk r c0 c1 c2 I J Q N A U V X S t) := by
  simp only [E_X4_has_0, mgs_t hj, Option.bind_some, hn, zhk]
  repeat' split
  all_goals rfl
theorem wt_get (hj : j < 4) {n : Nat} (hn : I (12 + j) = nI n) (h6 : n ≤ 60) (i : Int32) : zev r i_X4_get 0 [some (.ref (r.1 + 35 + 2 * j)), some (.int i)] [] (zmk r c0 c1 c2 I J Q N A U V X S t) = some (some (.int (if zhk n i = 0 then 0 else Q (19 + j) i.toNatClampNeg)), zmk r c0 c1 c2 I J Q N A U V X S t) := by
  simp only [E_X4_get_0, mo_t hj, if_true, wt_has hj hn, zcI_some]
  rcases zhk_cases n (by omega) i with e | ⟨e, k, hk, rfl⟩
  · simp only [e, if_true]
  · simp only [e, i01, if_false, mgv_t hj, Option.bind_some, mav_t hj (show k < 60 by omega), nI_clamp (show k < 2 ^ 31 by omega)]
theorem wt_set (hj : j < 4) {n k : Nat} (hn : I (12 + j) = nI n) (h6 : n ≤ 60) (hk : k < n) (v : Int32) : zev r i_X4_set 0 [some (.ref (r.1 + 35 + 2 * j)), some (.int (nI k)), some (.int v)] [] (zmk r c0 c1 c2 I J Q N A U V X S t) = some (none, zmk r c0 c1 c2 I J (va_up Q (19 + j) (upd (Q (19 + j)) k v)) N A U V X S t) := by
  simp only [E_X4_set_0, mo_t hj, if_true, wt_has hj hn, zcI_some, zhk_in hk (show n < 2 ^ 31 by omega), i01, if_false, mgv_t hj, Option.bind_some, mwv_t hj (show k < 60 by omega)]
theorem wt_fill (hj : j < 4) (v : Int32) : zev r i_J7_fill_53178 0 [some (.ref (r.1 + (36 + 2 * j))), some (.int v), none, none] [] (zmk r c0 c1 c2 I J Q N A U V X S t) = some (none, zmk r c0 c1 c2 I J (va_up Q (19 + j) (fun i => if i < 60 then v else Q (19 + j) i)) N A U V X S t) := by
  have := z_fill r (n := 60) (a := r.1 + (36 + 2 * j)) (fun f => zmk r c0 c1 c2 I J (va_up Q (19 + j) f) N A U V X S t) (by decide) (fun f => mnv_t hj) (fun f k y hk => by rw [mwv_t hj hk, va_same, bx_uu]) (Q (19 + j)) v
  rwa [va_self] at this
theorem wt_renew (hj : j < 4) {n : Nat} (h6 : n ≤ 60) (v : Int32) : zev r i_X4_renew 0 [some (.ref (r.1 + 35 + 2 * j)), some (.int (nI n)), some (.int v)] [] (zmk r c0 c1 c2 I J Q N A U V X S t) = some (none, zmk r c0 c1 c2 (va_up I (12 + j) (nI n)) J (va_up Q (19 + j) (fun i => if i < 60 then v else Q (19 + j) i)) N A U V X S t) := by
  have e : (if (0 : Int32) < (if nI 60 < nI n then nI 60 else nI n) then (if nI 60 < nI n then nI 60 else nI n) else (0 : Int32)) = nI n := by
    rw [if_neg (nI_nlt h6 (show 60 < 2 ^ 31 by decide))]
    cases n with
    | zero => rfl
    | succ n => rw [if_pos (show (0 : Int32) < nI (n + 1) from nI_lt (a := 0) (Nat.succ_pos n) (by omega))]
  simp only [E_X4_renew_0, mgv_t hj, mnv_t hj, Option.bind_some, nI_of0, e, mps_t hj, wt_fill hj, zcV_some]
theorem wt_disc (hj : j < 4) : zev r i_X4_discard 0 [some (.ref (r.1 + 35 + 2 * j))] [] (zmk r c0 c1 c2 I J Q N A U V X S t) = some (none, zmk r c0 c1 c2 (va_up I (12 + j) (-1)) J Q N A U V X S t) := by
  simp only [E_X4_discard_0, mps_t hj, Option.bind_some]
theorem wt_dig (hj : j < 4) {n : Nat} (hn : I (12 + j) = nI n) (h6 : n ≤ 60) (g : Int64) : zev r i_X4_digestedOnto 0 [some (.ref (r.1 + 35 + 2 * j)), some (.long g), none, none, none, none] [] (zmk r c0 c1 c2 I J Q N A U V X S t) = some (some (.long (zfd (fun a i => 31 * a + (Q (19 + j) i).toInt64) 0 n (31 * g + (nI n).toInt64))), zmk r c0 c1 c2 I J Q N A U V X S t) := by
  simp only [E_X4_digestedOnto_0, mgs_t hj, Option.bind_some, hn]
  refine zloop (fun i (a : Int64) => zev r i_X4_digestedOnto 15 [some (.ref (r.1 + 35 + 2 * j)), some (.long g), none, some (.long a), none, some (.int (nI i))] [] (zmk r c0 c1 c2 I J Q N A U V X S t)) (fun a => some (some (.long a), zmk r c0 c1 c2 I J Q N A U V X S t)) _ n (fun i a hi => ?_) (fun a => ?_) _
  · refine (E_X4_digestedOnto_15 ..).trans ?_
    simp only [mgs_t hj, Option.bind_some, hn, if_pos (nI_lt hi (show n < 2 ^ 31 by omega)), mo_t hj, if_true, wt_get hj hn h6, zcI_some, zhk_in hi (show n < 2 ^ 31 by omega), i01, if_false, nI_clamp (show i < 2 ^ 31 by omega), nI_1]
  · refine (E_X4_digestedOnto_15 ..).trans ?_
    simp only [mgs_t hj, Option.bind_some, hn, if_neg (nI_nlt (Nat.le_refl n) (show n < 2 ^ 31 by omega))]
theorem wt_dig1 (hj : j < 4) (hn : I (12 + j) = -1) (g : Int64) : zev r i_X4_digestedOnto 0 [some (.ref (r.1 + 35 + 2 * j)), some (.long g), none, none, none, none] [] (zmk r c0 c1 c2 I J Q N A U V X S t) = some (some (.long (31 * g + (-1 : Int32).toInt64)), zmk r c0 c1 c2 I J Q N A U V X S t) := by
  simp only [E_X4_digestedOnto_0, mgs_t hj, Option.bind_some, hn]
  refine (E_X4_digestedOnto_15 ..).trans ?_
  simp only [mgs_t hj, Option.bind_some, hn, if_neg (show ¬ (0 : Int32) < -1 by decide)]
theorem wr_sum (hj : j < 6) {n : Nat} (hn : I (6 + j) = nI n) (h6 : n ≤ 60) : zev r i_X4_sum 0 [some (.ref (r.1 + 23 + 2 * j)), none, none, none] [] (zmk r c0 c1 c2 I J Q N A U V X S t) = some (some (.long (zfd (fun a i => a + (Q (13 + j) i).toInt64) 0 n 0)), zmk r c0 c1 c2 I J Q N A U V X S t) := by
  rw [E_X4_sum_0]
  refine zloop (fun i (a : Int64) => zev r i_X4_sum 4 [some (.ref (r.1 + 23 + 2 * j)), some (.long a), none, some (.int (nI i))] [] (zmk r c0 c1 c2 I J Q N A U V X S t)) (fun a => some (some (.long a), zmk r c0 c1 c2 I J Q N A U V X S t)) _ n (fun i a hi => ?_) (fun a => ?_) _
  · refine (E_X4_sum_4 ..).trans ?_
    simp only [mgs_r hj, Option.bind_some, hn, if_pos (nI_lt hi (show n < 2 ^ 31 by omega)), mo_r hj, if_true, wr_get hj hn h6, zcI_some, zhk_in hi (show n < 2 ^ 31 by omega), i01, if_false, nI_clamp (show i < 2 ^ 31 by omega), nI_1]
  · refine (E_X4_sum_4 ..).trans ?_
    simp only [mgs_r hj, Option.bind_some, hn, if_neg (nI_nlt (Nat.le_refl n) (show n < 2 ^ 31 by omega))]
/-- n places from i on, of m -/
def zsp (m : Nat) (i n : Int32) : Int32 := if i < 0 then 0 else if nI m < i then 0 else if n < 0 then 0 else if nI m - i < n then 0 else 1
theorem wr_span (hj : j < 6) {m : Nat} (hn : I (6 + j) = nI m) (i n : Int32) : zev r i_X4_spans 0 [some (.ref (r.1 + 23 + 2 * j)), some (.int i), some (.int n)] [] (zmk r c0 c1 c2 I J Q N A U V X S t) = some (some (.int (zsp m i n)), zmk r c0 c1 c2 I J Q N A U V X S t) := by
  simp only [E_X4_spans_0, mgs_r hj, Option.bind_some, hn, zsp]
  repeat' split
  all_goals rfl
theorem zsp_cases (m : Nat) (hm : m ≤ 60) (i : Int32) {n : Int32} (hn : ¬ n < 0) : zsp m i n = 0 ∨ zsp m i n = 1 ∧ ∃ a b, i = nI a ∧ n = nI b ∧ a + b ≤ m := by
  by_cases h : i < 0
  · exact .inl (by unfold zsp; rw [if_pos h])
  · obtain ⟨a, ha, rfl⟩ := nI_of h
    obtain ⟨b, hb, rfl⟩ := nI_of hn
    by_cases h2 : m < a
    · exact .inl (by unfold zsp; rw [if_neg h, if_pos (nI_lt h2 ha)])
    · have e : nI m - nI a = nI (m - a) := pk_sub (by omega)
      by_cases h3 : m - a < b
      · exact .inl (by unfold zsp; rw [if_neg h, if_neg (nI_nlt (by omega) (by omega)), if_neg hn, e, if_pos (nI_lt h3 hb)])
      · exact .inr ⟨by unfold zsp; rw [if_neg h, if_neg (nI_nlt (by omega) (by omega)), if_neg hn, e, if_neg (nI_nlt (by omega) (by omega))], a, b, rfl, rfl, by omega⟩
theorem zcp_row {k i d n : Nat} (hj : j < 6) (hk : k < 6) (h1 : i + n ≤ 60) (h2 : d + n ≤ 60) : zcp r (zmk r c0 c1 c2 I J Q N A U V X S t) (r.1 + (24 + 2 * j)) (nI i) (r.1 + (24 + 2 * k)) (nI d) (nI n) = some (zmk r c0 c1 c2 I J (va_up Q (13 + k) (va_cpy (Q (13 + j)) (Q (13 + k)) i d n)) N A U V X S t) := by
  rw [zcp_of (mcv_r hj) (mcv_r hk) h1 h2 (by decide) (by decide), msv_r hk]
theorem wr_copy {k i d n m m2 : Nat} (hj : j < 6) (hk : k < 6) (hn : I (6 + j) = nI m) (hm : m ≤ 60) (hn2 : I (6 + k) = nI m2) (hm2 : m2 ≤ 60) (h1 : i + n ≤ m) (h2 : d + n ≤ m2) : zev r i_X4_copyTo 0 [some (.ref (r.1 + 23 + 2 * j)), some (.int (nI i)), some (.ref (r.1 + 23 + 2 * k)), some (.int (nI d)), some (.int (nI n))] [] (zmk r c0 c1 c2 I J Q N A U V X S t) = some (none, zmk r c0 c1 c2 I J (va_up Q (13 + k) (va_cpy (Q (13 + j)) (Q (13 + k)) i d n)) N A U V X S t) := by
  have e : ∀ m i n : Nat, m ≤ 60 → i + n ≤ m → zsp m (nI i) (nI n) = 1 := fun m i n a b => by
    unfold zsp
    rw [if_neg (nI_pos (by omega)), if_neg (nI_nlt (by omega) (by omega)), if_neg (nI_pos (by omega)), pk_sub (by omega), if_neg (nI_nlt (by omega) (by omega))]
  simp only [E_X4_copyTo_0, mo_r hj, mo_r hk, if_true, wr_span hj hn, wr_span hk hn2, zcI_some, e m i n hm h1, e m2 d n hm2 h2, i01, if_false, mgv_r hj, mgv_r hk, Option.bind_some, zcp_row hj hk (show i + n ≤ 60 by omega) (show d + n ≤ 60 by omega)]
end ROWS
