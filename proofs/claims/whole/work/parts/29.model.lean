/-! THE REFERENCE: its telling methods run -/
theorem i64_lt {a b : Int32} : a.toInt64 < b.toInt64 ↔ a < b := by
  rw [Int64.lt_iff_toInt_lt, Int32.lt_iff_toInt_lt, Int32.toInt_toInt64, Int32.toInt_toInt64]
/-- from a least to a most -/
def zbw (lo hi i : Int32) : Int32 := if i < lo then 0 else if hi < i then 0 else 1
theorem zbw_01 (lo hi i : Int32) : zbw lo hi i = 0 ∨ zbw lo hi i = 1 := by
  unfold zbw
  repeat' split
  all_goals first | exact .inl rfl | exact .inr rfl
theorem m_in (r : zE) (h : zH) (i lo hi : Int32) {l k : Int64} (hl : l = lo.toInt64) (hk : k = hi.toInt64) : zev r i_X6_in 0 [some (.long i.toInt64), none, some (.long l), none, some (.long k), none] [] h = some (some (.int (zbw lo hi i)), h) := by
  subst hl hk
  rw [E_X6_in_0]
  have e1 : lg_cmp i.toInt64 lo.toInt64 < 0 ↔ i < lo := by
    rw [← i64_lt (a := i) (b := lo)]
    unfold lg_cmp
    by_cases c : i.toInt64 > lo.toInt64
    · rw [if_pos c]
      exact ⟨fun q => absurd q (by decide), fun q => absurd q (Int64.lt_asymm c)⟩
    · rw [if_neg c]
      by_cases c2 : i.toInt64 = lo.toInt64
      · rw [if_pos c2, c2]
        exact ⟨fun q => absurd q (by decide), fun q => absurd q Int64.lt_irrefl⟩
      · rw [if_neg c2]
        exact ⟨fun _ => Int64.lt_of_le_of_ne (Int64.not_lt.mp c) c2, fun _ => by decide⟩
  have e2 : 0 < lg_cmp i.toInt64 hi.toInt64 ↔ hi < i := by
    rw [← i64_lt (a := hi) (b := i)]
    unfold lg_cmp
    by_cases c : i.toInt64 > hi.toInt64
    · rw [if_pos c]
      exact ⟨fun q => c, fun q => by decide⟩
    · rw [if_neg c]
      refine ⟨fun q => ?_, fun q => absurd q c⟩
      split at q <;> exact absurd q (by decide)
  simp only [e1, e2, zbw]
  repeat' split
  all_goals rfl
theorem zbw_hk {n : Nat} (hn : n < 2 ^ 31) (i : Int32) : zbw 0 (nI n - 1) i = zhk n i := by
  unfold zbw zhk
  by_cases c : i < 0
  · rw [if_pos c, if_pos c]
  · rw [if_neg c, if_neg c]
    obtain ⟨j, hj, rfl⟩ := nI_of c
    cases n with
    | zero => rw [if_pos (show nI 0 - 1 < nI j from Int32.lt_of_lt_of_le (by decide) (nI_pos' hj)), if_neg (nI_nlt (Nat.zero_le _) hj)]
    | succ n =>
      rw [nI_pred]
      by_cases c2 : n < j
      · rw [if_pos (nI_lt c2 hj), if_neg (nI_nlt (by omega) hj)]
      · rw [if_neg (nI_nlt (by omega) (by omega)), if_pos (nI_lt (by omega) hn)]
theorem zhk_01 (n : Nat) (i : Int32) : zhk n i = 0 ∨ zhk n i = 1 := by
  unfold zhk
  repeat' split
  all_goals first | exact .inl rfl | exact .inr rfl
/-- the reference's crew -/
def zMv (C : zCs) (U : zA) (X : Nat → zA) : Prop := U 0 = nI C.1 ∧ U 1 = nI C.2.1 ∧ X 1 = C.2.2.1 ∧ X 2 = C.2.2.2.1 ∧ X 3 = C.2.2.2.2.1 ∧ X 4 = C.2.2.2.2.2
section MODEL
variable {r : zE} {c0 c1 c2 : Nat} {I : Nat → Int32} {J : Nat → Int64} {Q : Nat → Nat → Int32} {N A : zBr} {U : Nat → Int32} {V : Nat → Int64} {X : Nat → Nat → Int32} {S : zSs} {t : zH} {C : zCs}
theorem m_row (r : zE) (h : zH) (i : Int32) : zev r i_X6_isRow 0 [some (.int i)] [] h = some (some (.int (zhk 6 i)), h) := by
  rw [E_X6_isRow_0, m_in r h i 0 5 (l := 0) (k := 5) rfl rfl, zcI_some, if_pos (zbw_01 ..)]
  rw [← zbw_hk (by decide) i]
  rfl
theorem m_text (r : zE) (h : zH) (i : Int32) : zev r i_X6_isText 0 [some (.int i)] [] h = some (some (.int (zhk 4 i)), h) := by
  rw [E_X6_isText_0, m_in r h i 0 3 (l := 0) (k := 3) rfl rfl, zcI_some, if_pos (zbw_01 ..)]
  rw [← zbw_hk (by decide) i]
  rfl
theorem m_when (r : zE) (h : zH) (i : Int32) : zev r i_X6_isWhen 0 [some (.int i)] [] h = some (some (.int (zhk 3 i)), h) := by
  rw [E_X6_isWhen_0, m_in r h i 0 2 (l := 0) (k := 2) rfl rfl, zcI_some, if_pos (zbw_01 ..)]
  rw [← zbw_hk (by decide) i]
  rfl
theorem m_man (v : zMv C U X) (k : zCk C) (i : Int32) : zev r i_X6_isMan 0 [some (.ref (r.1 + 49)), some (.int i)] [] (zmk r c0 c1 c2 I J Q N A U V X S t) = some (some (.int (zhk C.2.1 i)), zmk r c0 c1 c2 I J Q N A U V X S t) := by
  obtain ⟨-, k2, -⟩ := id k
  simp only [E_X6_isMan_0, mo_49, mg_49_0, mg_49_1, mg_49_2, mg_49_3, mg_49_4, mg_49_5, mg_49_6, mg_49_7, mg_49_8, mg_49_9, mg_49_10, mg_49_11, mg_49_12, mg_49_13, mg_49_14, mg_49_15, mg_49_16, mg_49_17, mg_49_18, mg_49_19, mg_49_20, mg_49_21, mg_49_22, mg_49_23, mg_49_24, mg_49_25, Option.bind_some, v.2.1, m_in r _ i 0 _ (show (0 : Int64) = (0 : Int32).toInt64 from rfl) rfl, zcI_some, zbw_hk (show C.2.1 < 2 ^ 31 by omega), if_pos (zhk_01 ..)]
theorem m_hook (v : zMv C U X) (k : zCk C) (i : Int32) : zev r i_X6_isHook 0 [some (.ref (r.1 + 49)), some (.int i)] [] (zmk r c0 c1 c2 I J Q N A U V X S t) = some (some (.int (zhk C.1 i)), zmk r c0 c1 c2 I J Q N A U V X S t) := by
  obtain ⟨k2, -⟩ := id k
  simp only [E_X6_isHook_0, mo_49, mg_49_0, mg_49_1, mg_49_2, mg_49_3, mg_49_4, mg_49_5, mg_49_6, mg_49_7, mg_49_8, mg_49_9, mg_49_10, mg_49_11, mg_49_12, mg_49_13, mg_49_14, mg_49_15, mg_49_16, mg_49_17, mg_49_18, mg_49_19, mg_49_20, mg_49_21, mg_49_22, mg_49_23, mg_49_24, mg_49_25, Option.bind_some, v.1, m_in r _ i 0 _ (show (0 : Int64) = (0 : Int32).toInt64 from rfl) rfl, zcI_some, zbw_hk (show C.1 < 2 ^ 31 by omega), if_pos (zhk_01 ..)]
theorem m_isin (v : zMv C U X) (k : zCk C) {m : Nat} (hm : m < C.2.1) (w : Int32) : zev r i_X6_isIn 0 [some (.ref (r.1 + 49)), some (.int (nI m)), some (.int w)] [] (zmk r c0 c1 c2 I J Q N A U V X S t) = some (some (.int (sIn C S.1 m w)), zmk r c0 c1 c2 I J Q N A U V X S t) := by
  obtain ⟨-, k2, -⟩ := id k
  have h6 : m < 6 := by omega
  obtain ⟨-, -, -, -, v1, -⟩ := v
  simp only [E_X6_isIn_0, mo_49, mg_49_0, mg_49_1, mg_49_2, mg_49_3, mg_49_4, mg_49_5, mg_49_6, mg_49_7, mg_49_8, mg_49_9, mg_49_10, mg_49_11, mg_49_12, mg_49_13, mg_49_14, mg_49_15, mg_49_16, mg_49_17, mg_49_18, mg_49_19, mg_49_20, mg_49_21, mg_49_22, mg_49_23, mg_49_24, mg_49_25, Option.bind_some, ma_62 h6, ma_53 h6, v1, sIn]
  repeat' split
  all_goals rfl
theorem m_beside1 (v : zMv C U X) (k : zCk C) {m q : Nat} (hq : q < C.2.1) (hm : m < C.2.1) (w : Int32) : zev r i_X6_isBeside 0 [some (.ref (r.1 + 49)), some (.int (nI q)), some (.int (nI m)), some (.int w), none] [] (zmk r c0 c1 c2 I J Q N A U V X S t) = some (some (.int (sBes C S.1 q m w)), zmk r c0 c1 c2 I J Q N A U V X S t) := by
  obtain ⟨-, k2, -⟩ := id k
  simp only [E_X6_isBeside_0, mo_49, mg_49_0, mg_49_1, mg_49_2, mg_49_3, mg_49_4, mg_49_5, mg_49_6, mg_49_7, mg_49_8, mg_49_9, mg_49_10, mg_49_11, mg_49_12, mg_49_13, mg_49_14, mg_49_15, mg_49_16, mg_49_17, mg_49_18, mg_49_19, mg_49_20, mg_49_21, mg_49_22, mg_49_23, mg_49_24, mg_49_25, Option.bind_some, ma_62 (show m < 6 by omega), ma_62 (show q < 6 by omega), m_isin v k hq, zcI_some, if_true, sBes]
  repeat' split
  all_goals rfl
theorem sBes_01 (C : zCs) (H : zA) (q m : Nat) (w : Int32) : sBes C H q m w = 0 ∨ sBes C H q m w = 1 := by
  unfold sBes
  repeat' split
  all_goals first | exact .inl rfl | exact .inr rfl
theorem m_nlt (v : zMv C U X) (k : zCk C) : ¬ nI C.2.1 < U 1 := by rw [v.2.1]; exact nI_nlt6 k
theorem m_lt (v : zMv C U X) (k : zCk C) {j : Nat} (h : j < C.2.1) : nI j < U 1 := by rw [v.2.1]; exact nI_lt6 k h
theorem m_beside (v : zMv C U X) (k : zCk C) {m : Nat} (hm : m < C.2.1) (w : Int32) : zev r i_X6_beside 0 [some (.ref (r.1 + 49)), some (.int (nI m)), some (.int w), none, none] [] (zmk r c0 c1 c2 I J Q N A U V X S t) = some (some (.int (sBe C S.1 m w)), zmk r c0 c1 c2 I J Q N A U V X S t) := by
  rw [E_X6_beside_0]
  refine zloop (fun j (a : Int32) => zev r i_X6_beside 5 [some (.ref (r.1 + 49)), some (.int (nI m)), some (.int w), some (.int a), some (.int (nI j))] [] (zmk r c0 c1 c2 I J Q N A U V X S t)) (fun a => some (some (.int a), zmk r c0 c1 c2 I J Q N A U V X S t)) _ C.2.1 (fun j a hj => ?_) (fun a => ?_) 0
  · refine (E_X6_beside_5 ..).trans ?_
    simp only [mo_49, mg_49_0, mg_49_1, mg_49_2, mg_49_3, mg_49_4, mg_49_5, mg_49_6, mg_49_7, mg_49_8, mg_49_9, mg_49_10, mg_49_11, mg_49_12, mg_49_13, mg_49_14, mg_49_15, mg_49_16, mg_49_17, mg_49_18, mg_49_19, mg_49_20, mg_49_21, mg_49_22, mg_49_23, mg_49_24, mg_49_25, Option.bind_some, if_pos (m_lt v k hj), if_true, m_beside1 v k hj hm, zcI_some, nI_1]
    split <;> rfl
  · refine (E_X6_beside_5 ..).trans ?_
    simp only [mo_49, mg_49_0, mg_49_1, mg_49_2, mg_49_3, mg_49_4, mg_49_5, mg_49_6, mg_49_7, mg_49_8, mg_49_9, mg_49_10, mg_49_11, mg_49_12, mg_49_13, mg_49_14, mg_49_15, mg_49_16, mg_49_17, mg_49_18, mg_49_19, mg_49_20, mg_49_21, mg_49_22, mg_49_23, mg_49_24, mg_49_25, Option.bind_some, if_neg (m_nlt v k)]
theorem m_height (r : zE) (h : zH) (i : Int32) : zev r i_X6_height 0 [some (.int i)] [] h = some (some (.int (sHt i)), h) := by
  simp only [E_X6_height_0, sHt]
  repeat' split
  all_goals rfl
theorem m_worth (r : zE) (h : zH) (i : Int32) : zev r i_X6_placeWorth 0 [some (.int i)] [] h = some (some (.int (sPw i)), h) := by
  simp only [E_X6_placeWorth_0, sPw]
  repeat' split
  all_goals rfl
theorem m_wakes (v : zMv C U X) (k : zCk C) {m q : Nat} (hq : q < C.2.1) (hm : m < C.2.1) : zev r i_X6_wakes 0 [some (.ref (r.1 + 49)), some (.int (nI q)), some (.int (nI m)), none] [] (zmk r c0 c1 c2 I J Q N A U V X S t) = some (some (.int (sWk C S.2.1 q m)), zmk r c0 c1 c2 I J Q N A U V X S t) := by
  obtain ⟨-, k2, -⟩ := id k
  have e : X 2 = C.2.2.2.1 := v.2.2.2.1
  simp only [E_X6_wakes_0, E_X6_wakes_44, mo_49, mg_49_0, mg_49_1, mg_49_2, mg_49_3, mg_49_4, mg_49_5, mg_49_6, mg_49_7, mg_49_8, mg_49_9, mg_49_10, mg_49_11, mg_49_12, mg_49_13, mg_49_14, mg_49_15, mg_49_16, mg_49_17, mg_49_18, mg_49_19, mg_49_20, mg_49_21, mg_49_22, mg_49_23, mg_49_24, mg_49_25, Option.bind_some, ma_63 (show m < 6 by omega), ma_63 (show q < 6 by omega), ma_52 (show m < 6 by omega), ma_52 (show q < 6 by omega), m_height, zcI_some, sWk, e]
  repeat' split
  all_goals rfl
theorem m_woken (v : zMv C U X) (k : zCk C) {m : Nat} (hm : m < C.2.1) (hv : S.1 m = -9 ∨ ∃ j, j < C.1 ∧ S.1 m = nI j) (w b : Int32) : zev r i_X6_wokenBut 0 [some (.ref (r.1 + 49)), some (.int (nI m)), some (.int w), some (.int b), none, none] [] (zmk r c0 c1 c2 I J Q N A U V X S t) = some (some (.int (sWo C S.1 S.2.1 m w b)), zmk r c0 c1 c2 I J Q N A U V X S t) := by
  obtain ⟨k1, k2, -⟩ := id k
  have h6 : m < 6 := by omega
  simp only [E_X6_wokenBut_0, mo_49, mg_49_0, mg_49_1, mg_49_2, mg_49_3, mg_49_4, mg_49_5, mg_49_6, mg_49_7, mg_49_8, mg_49_9, mg_49_10, mg_49_11, mg_49_12, mg_49_13, mg_49_14, mg_49_15, mg_49_16, mg_49_17, mg_49_18, mg_49_19, mg_49_20, mg_49_21, mg_49_22, mg_49_23, mg_49_24, mg_49_25, Option.bind_some, if_true, m_isin v k hm, zcI_some, sWo]
  by_cases e : sIn C S.1 m w = 0
  · simp only [e, if_true]
  · have e2 : ¬ S.1 m = -9 := fun q => e (by unfold sIn; rw [if_pos q])
    obtain ⟨j, hj, ej⟩ := hv.resolve_left e2
    have e7 : X 1 = C.2.2.1 := v.2.2.1
    have e8 : X 2 = C.2.2.2.1 := v.2.2.2.1
    simp only [e, if_false, ma_62 h6, ej, ma_51 (show j < 7 by omega), Option.bind_some, m_worth, zcI_some]
    refine (zloop (fun j (a : Int32) => zev r i_X6_wokenBut 30 [some (.ref (r.1 + 49)), some (.int (nI m)), some (.int w), some (.int b), some (.int a), some (.int (nI j))] [] (zmk r c0 c1 c2 I J Q N A U V X S t)) (fun s => some (some (.int (if C.2.2.2.1 m = 5 then 2 * (if s < 0 then 0 else s) else (if s < 0 then 0 else s))), zmk r c0 c1 c2 I J Q N A U V X S t)) (fun a q => a + (if nI q = b then 0 else if sBes C S.1 q m w = 0 then 0 else sWk C S.2.1 q m)) C.2.1 (fun q a hq => ?_) (fun a => ?_) (sPw (X 1 j))).trans ?_
    · refine (E_X6_wokenBut_30 ..).trans ?_
      simp only [mo_49, mg_49_0, mg_49_1, mg_49_2, mg_49_3, mg_49_4, mg_49_5, mg_49_6, mg_49_7, mg_49_8, mg_49_9, mg_49_10, mg_49_11, mg_49_12, mg_49_13, mg_49_14, mg_49_15, mg_49_16, mg_49_17, mg_49_18, mg_49_19, mg_49_20, mg_49_21, mg_49_22, mg_49_23, mg_49_24, mg_49_25, Option.bind_some, if_pos (m_lt v k hq), if_true, m_beside1 v k hq hm, m_wakes v k hq hm, zcI_some, nI_1]
      repeat' split
      all_goals rfl
    · refine (E_X6_wokenBut_30 ..).trans ?_
      simp only [mo_49, mg_49_0, mg_49_1, mg_49_2, mg_49_3, mg_49_4, mg_49_5, mg_49_6, mg_49_7, mg_49_8, mg_49_9, mg_49_10, mg_49_11, mg_49_12, mg_49_13, mg_49_14, mg_49_15, mg_49_16, mg_49_17, mg_49_18, mg_49_19, mg_49_20, mg_49_21, mg_49_22, mg_49_23, mg_49_24, mg_49_25, Option.bind_some, if_neg (m_nlt v k), ma_52 h6, e8]
      repeat' split
      all_goals first | rfl | contradiction
    · simp only [sSu, ej, nI_clamp (show j < 2 ^ 31 by omega), e7]
def zVd (C : zCs) (H : zA) : Prop := ∀ m, m < C.2.1 → H m = -9 ∨ ∃ j, j < C.1 ∧ H m = nI j
theorem m_all (v : zMv C U X) (k : zCk C) (hv : zVd C S.1) (w : Int32) : zev r i_X6_allWoken 0 [some (.ref (r.1 + 49)), some (.int w), none, none] [] (zmk r c0 c1 c2 I J Q N A U V X S t) = some (some (.int (sAll C S.1 S.2.1 w)), zmk r c0 c1 c2 I J Q N A U V X S t) := by
  rw [E_X6_allWoken_0]
  refine zloop (fun j (a : Int32) => zev r i_X6_allWoken 4 [some (.ref (r.1 + 49)), some (.int w), some (.int a), some (.int (nI j))] [] (zmk r c0 c1 c2 I J Q N A U V X S t)) (fun a => some (some (.int a), zmk r c0 c1 c2 I J Q N A U V X S t)) _ C.2.1 (fun j a hj => ?_) (fun a => ?_) 0
  · refine (E_X6_allWoken_4 ..).trans ?_
    simp only [mo_49, mg_49_0, mg_49_1, mg_49_2, mg_49_3, mg_49_4, mg_49_5, mg_49_6, mg_49_7, mg_49_8, mg_49_9, mg_49_10, mg_49_11, mg_49_12, mg_49_13, mg_49_14, mg_49_15, mg_49_16, mg_49_17, mg_49_18, mg_49_19, mg_49_20, mg_49_21, mg_49_22, mg_49_23, mg_49_24, mg_49_25, Option.bind_some, if_pos (m_lt v k hj), if_true, m_woken v k hj (hv j hj), zcI_some, nI_1]
  · refine (E_X6_allWoken_4 ..).trans ?_
    simp only [mo_49, mg_49_0, mg_49_1, mg_49_2, mg_49_3, mg_49_4, mg_49_5, mg_49_6, mg_49_7, mg_49_8, mg_49_9, mg_49_10, mg_49_11, mg_49_12, mg_49_13, mg_49_14, mg_49_15, mg_49_16, mg_49_17, mg_49_18, mg_49_19, mg_49_20, mg_49_21, mg_49_22, mg_49_23, mg_49_24, mg_49_25, Option.bind_some, if_neg (m_nlt v k)]
theorem m_most (v : zMv C U X) (k : zCk C) (hv : zVd C S.1) (w : Int32) : zev r i_X6_mostWoken 0 [some (.ref (r.1 + 49)), some (.int w), none, none, none] [] (zmk r c0 c1 c2 I J Q N A U V X S t) = some (some (.int (sMost C S.1 S.2.1 w)), zmk r c0 c1 c2 I J Q N A U V X S t) := by
  rw [E_X6_mostWoken_0]
  refine zloop (fun j (a : Int32) => zev r i_X6_mostWoken 4 [some (.ref (r.1 + 49)), some (.int w), some (.int a), some (.int (nI j)), none] [] (zmk r c0 c1 c2 I J Q N A U V X S t)) (fun a => some (some (.int a), zmk r c0 c1 c2 I J Q N A U V X S t)) _ C.2.1 (fun j a hj => ?_) (fun a => ?_) 0
  · refine (E_X6_mostWoken_4 ..).trans ?_
    simp only [mo_49, mg_49_0, mg_49_1, mg_49_2, mg_49_3, mg_49_4, mg_49_5, mg_49_6, mg_49_7, mg_49_8, mg_49_9, mg_49_10, mg_49_11, mg_49_12, mg_49_13, mg_49_14, mg_49_15, mg_49_16, mg_49_17, mg_49_18, mg_49_19, mg_49_20, mg_49_21, mg_49_22, mg_49_23, mg_49_24, mg_49_25, Option.bind_some, if_pos (m_lt v k hj), if_true, m_woken v k hj (hv j hj), zcI_some, nI_1]
    split <;> rfl
  · refine (E_X6_mostWoken_4 ..).trans ?_
    simp only [mo_49, mg_49_0, mg_49_1, mg_49_2, mg_49_3, mg_49_4, mg_49_5, mg_49_6, mg_49_7, mg_49_8, mg_49_9, mg_49_10, mg_49_11, mg_49_12, mg_49_13, mg_49_14, mg_49_15, mg_49_16, mg_49_17, mg_49_18, mg_49_19, mg_49_20, mg_49_21, mg_49_22, mg_49_23, mg_49_24, mg_49_25, Option.bind_some, if_neg (m_nlt v k)]
theorem m_many (v : zMv C U X) (k : zCk C) (w : Int32) : zev r i_X6_inMany 0 [some (.ref (r.1 + 49)), some (.int w), none, none] [] (zmk r c0 c1 c2 I J Q N A U V X S t) = some (some (.int (sMany C S.1 w)), zmk r c0 c1 c2 I J Q N A U V X S t) := by
  rw [E_X6_inMany_0]
  refine zloop (fun j (a : Int32) => zev r i_X6_inMany 4 [some (.ref (r.1 + 49)), some (.int w), some (.int a), some (.int (nI j))] [] (zmk r c0 c1 c2 I J Q N A U V X S t)) (fun a => some (some (.int a), zmk r c0 c1 c2 I J Q N A U V X S t)) _ C.2.1 (fun j a hj => ?_) (fun a => ?_) 0
  · refine (E_X6_inMany_4 ..).trans ?_
    simp only [mo_49, mg_49_0, mg_49_1, mg_49_2, mg_49_3, mg_49_4, mg_49_5, mg_49_6, mg_49_7, mg_49_8, mg_49_9, mg_49_10, mg_49_11, mg_49_12, mg_49_13, mg_49_14, mg_49_15, mg_49_16, mg_49_17, mg_49_18, mg_49_19, mg_49_20, mg_49_21, mg_49_22, mg_49_23, mg_49_24, mg_49_25, Option.bind_some, if_pos (m_lt v k hj), if_true, m_isin v k hj, zcI_some, nI_1, Int32.add_zero]
    split <;> rfl
  · refine (E_X6_inMany_4 ..).trans ?_
    simp only [mo_49, mg_49_0, mg_49_1, mg_49_2, mg_49_3, mg_49_4, mg_49_5, mg_49_6, mg_49_7, mg_49_8, mg_49_9, mg_49_10, mg_49_11, mg_49_12, mg_49_13, mg_49_14, mg_49_15, mg_49_16, mg_49_17, mg_49_18, mg_49_19, mg_49_20, mg_49_21, mg_49_22, mg_49_23, mg_49_24, mg_49_25, Option.bind_some, if_neg (m_nlt v k)]
theorem m_of (v : zMv C U X) (k : zCk C) {m : Nat} (hm : m < C.2.1) (i : Int32) : zev r i_X6_isOf 0 [some (.ref (r.1 + 49)), some (.int (nI m)), some (.int i)] [] (zmk r c0 c1 c2 I J Q N A U V X S t) = some (some (.int (sOf C m i)), zmk r c0 c1 c2 I J Q N A U V X S t) := by
  obtain ⟨-, k2, -⟩ := id k
  have e8 : X 2 = C.2.2.2.1 := v.2.2.2.1
  simp only [E_X6_isOf_0, mo_49, mg_49_0, mg_49_1, mg_49_2, mg_49_3, mg_49_4, mg_49_5, mg_49_6, mg_49_7, mg_49_8, mg_49_9, mg_49_10, mg_49_11, mg_49_12, mg_49_13, mg_49_14, mg_49_15, mg_49_16, mg_49_17, mg_49_18, mg_49_19, mg_49_20, mg_49_21, mg_49_22, mg_49_23, mg_49_24, mg_49_25, Option.bind_some, ma_52 (show m < 6 by omega), e8, sOf]
  repeat' split
  all_goals rfl
theorem m_tall (v : zMv C U X) (k : zCk C) : zev r i_X6_tallMany 0 [some (.ref (r.1 + 49)), none, none] [] (zmk r c0 c1 c2 I J Q N A U V X S t) = some (some (.int (sTall C)), zmk r c0 c1 c2 I J Q N A U V X S t) := by
  rw [E_X6_tallMany_0]
  refine zloop (fun j (a : Int32) => zev r i_X6_tallMany 4 [some (.ref (r.1 + 49)), some (.int a), some (.int (nI j))] [] (zmk r c0 c1 c2 I J Q N A U V X S t)) (fun a => some (some (.int a), zmk r c0 c1 c2 I J Q N A U V X S t)) _ C.2.1 (fun j a hj => ?_) (fun a => ?_) 0
  · refine (E_X6_tallMany_4 ..).trans ?_
    simp only [mo_49, mg_49_0, mg_49_1, mg_49_2, mg_49_3, mg_49_4, mg_49_5, mg_49_6, mg_49_7, mg_49_8, mg_49_9, mg_49_10, mg_49_11, mg_49_12, mg_49_13, mg_49_14, mg_49_15, mg_49_16, mg_49_17, mg_49_18, mg_49_19, mg_49_20, mg_49_21, mg_49_22, mg_49_23, mg_49_24, mg_49_25, Option.bind_some, if_pos (m_lt v k hj), if_true, m_of v k hj, zcI_some, nI_1, Int32.add_zero]
    split <;> rfl
  · refine (E_X6_tallMany_4 ..).trans ?_
    simp only [mo_49, mg_49_0, mg_49_1, mg_49_2, mg_49_3, mg_49_4, mg_49_5, mg_49_6, mg_49_7, mg_49_8, mg_49_9, mg_49_10, mg_49_11, mg_49_12, mg_49_13, mg_49_14, mg_49_15, mg_49_16, mg_49_17, mg_49_18, mg_49_19, mg_49_20, mg_49_21, mg_49_22, mg_49_23, mg_49_24, mg_49_25, Option.bind_some, if_neg (m_nlt v k)]
def sKin (C : zCs) (H : zA) (m : Nat) (kind are : Int32) : Int32 := zfd (fun a q => a + (if sBes C H q m 0 = 0 then 0 else if C.2.2.2.1 q = kind then (if (1 : Int32) = are then 1 else 0) else if (0 : Int32) = are then 1 else 0)) 0 C.2.1 0
theorem m_kin (v : zMv C U X) (k : zCk C) {m : Nat} (hm : m < C.2.1) (i w : Int32) : zev r i_X6_besideOf 0 [some (.ref (r.1 + 49)), some (.int (nI m)), some (.int i), some (.int w), none, none] [] (zmk r c0 c1 c2 I J Q N A U V X S t) = some (some (.int (sKin C S.1 m i w)), zmk r c0 c1 c2 I J Q N A U V X S t) := by
  have k2 := k.2.1
  have e8 : X 2 = C.2.2.2.1 := v.2.2.2.1
  rw [E_X6_besideOf_0]
  refine zloop (fun j (a : Int32) => zev r i_X6_besideOf 6 [some (.ref (r.1 + 49)), some (.int (nI m)), some (.int i), some (.int w), some (.int a), some (.int (nI j))] [] (zmk r c0 c1 c2 I J Q N A U V X S t)) (fun a => some (some (.int a), zmk r c0 c1 c2 I J Q N A U V X S t)) _ C.2.1 (fun j a hj => ?_) (fun a => ?_) 0
  · refine (E_X6_besideOf_6 ..).trans ?_
    simp only [mo_49, mg_49_0, mg_49_1, mg_49_2, mg_49_3, mg_49_4, mg_49_5, mg_49_6, mg_49_7, mg_49_8, mg_49_9, mg_49_10, mg_49_11, mg_49_12, mg_49_13, mg_49_14, mg_49_15, mg_49_16, mg_49_17, mg_49_18, mg_49_19, mg_49_20, mg_49_21, mg_49_22, mg_49_23, mg_49_24, mg_49_25, Option.bind_some, if_pos (m_lt v k hj), if_true, m_beside1 v k hj hm, ma_52 (show j < 6 by omega), e8, zcI_some, nI_1]
    repeat' split
    all_goals rfl
  · refine (E_X6_besideOf_6 ..).trans ?_
    simp only [mo_49, mg_49_0, mg_49_1, mg_49_2, mg_49_3, mg_49_4, mg_49_5, mg_49_6, mg_49_7, mg_49_8, mg_49_9, mg_49_10, mg_49_11, mg_49_12, mg_49_13, mg_49_14, mg_49_15, mg_49_16, mg_49_17, mg_49_18, mg_49_19, mg_49_20, mg_49_21, mg_49_22, mg_49_23, mg_49_24, mg_49_25, Option.bind_some, if_neg (m_nlt v k)]
theorem m_who (v : zMv C U X) (k : zCk C) (i : Int32) : zev r i_X6_whoAt 0 [some (.ref (r.1 + 49)), some (.int i), none] [] (zmk r c0 c1 c2 I J Q N A U V X S t) = some (some (.int (sWho (fun m => X 0 (1 + m)) i 0 C.2.1)), zmk r c0 c1 c2 I J Q N A U V X S t) := by
  have k2 := k.2.1
  rw [E_X6_whoAt_0]
  suffices H : ∀ n j, j + n = C.2.1 → zev r i_X6_whoAt 2 [some (.ref (r.1 + 49)), some (.int i), some (.int (nI j))] [] (zmk r c0 c1 c2 I J Q N A U V X S t) = some (some (.int (sWho (fun m => X 0 (1 + m)) i j n)), zmk r c0 c1 c2 I J Q N A U V X S t) from H C.2.1 0 (by omega)
  intro n
  induction n with
  | zero =>
    intro j e
    refine (E_X6_whoAt_2 ..).trans ?_
    rw [show j = C.2.1 by omega]
    simp only [mo_49, mg_49_0, mg_49_1, mg_49_2, mg_49_3, mg_49_4, mg_49_5, mg_49_6, mg_49_7, mg_49_8, mg_49_9, mg_49_10, mg_49_11, mg_49_12, mg_49_13, mg_49_14, mg_49_15, mg_49_16, mg_49_17, mg_49_18, mg_49_19, mg_49_20, mg_49_21, mg_49_22, mg_49_23, mg_49_24, mg_49_25, Option.bind_some, if_neg (m_nlt v k), sWho]
  | succ n ih =>
    intro j e
    refine (E_X6_whoAt_2 ..).trans ?_
    have e1 : (1 : Int32) + nI j = nI (1 + j) := nI_add 1 j
    simp only [mo_49, mg_49_0, mg_49_1, mg_49_2, mg_49_3, mg_49_4, mg_49_5, mg_49_6, mg_49_7, mg_49_8, mg_49_9, mg_49_10, mg_49_11, mg_49_12, mg_49_13, mg_49_14, mg_49_15, mg_49_16, mg_49_17, mg_49_18, mg_49_19, mg_49_20, mg_49_21, mg_49_22, mg_49_23, mg_49_24, mg_49_25, Option.bind_some, if_pos (m_lt v k (show j < C.2.1 by omega)), e1, ma_50 (show 1 + j < 4396 by omega), sWho, nI_1, ih (j + 1) (by omega)]
    split <;> rfl
theorem m_told (v : zMv C U X) (k : zCk C) {m : Nat} (hm : m < C.2.1) (i : Int32) : zev r i_X6_toldOf 0 [some (.ref (r.1 + 49)), some (.int (nI m)), some (.int i)] [] (zmk r c0 c1 c2 I J Q N A U V X S t) = some (some (.int (sMan C (fun m => X 0 (1 + m)) (fun m => X 0 (7 + m)) (fun m => X 0 (13 + m)) m i)), zmk r c0 c1 c2 I J Q N A U V X S t) := by
  have k2 := k.2.1
  obtain ⟨-, -, v1, v2, v3, v4⟩ := v
  have e1 : (1 : Int32) + nI m = nI (1 + m) := nI_add 1 m
  have e2 : (7 : Int32) + nI m = nI (7 + m) := nI_add 7 m
  have e3 : (13 : Int32) + nI m = nI (13 + m) := nI_add 13 m
  simp only [E_X6_toldOf_0, mo_49, mg_49_0, mg_49_1, mg_49_2, mg_49_3, mg_49_4, mg_49_5, mg_49_6, mg_49_7, mg_49_8, mg_49_9, mg_49_10, mg_49_11, mg_49_12, mg_49_13, mg_49_14, mg_49_15, mg_49_16, mg_49_17, mg_49_18, mg_49_19, mg_49_20, mg_49_21, mg_49_22, mg_49_23, mg_49_24, mg_49_25, Option.bind_some, e1, e2, e3, ma_50 (show 1 + m < 4396 by omega), ma_50 (show 7 + m < 4396 by omega), ma_50 (show 13 + m < 4396 by omega), ma_52 (show m < 6 by omega), ma_53 (show m < 6 by omega), ma_54 (show m < 6 by omega), v2, v3, v4, sMan]
  repeat' split
  all_goals rfl
theorem m_tired (v : zMv C U X) (k : zCk C) : zev r i_X6_tiredAll 0 [some (.ref (r.1 + 49)), none, none] [] (zmk r c0 c1 c2 I J Q N A U V X S t) = some (some (.int (sTired C (fun m => X 0 (13 + m)))), zmk r c0 c1 c2 I J Q N A U V X S t) := by
  have k2 := k.2.1
  rw [E_X6_tiredAll_0]
  refine zloop (fun j (a : Int32) => zev r i_X6_tiredAll 4 [some (.ref (r.1 + 49)), some (.int a), some (.int (nI j))] [] (zmk r c0 c1 c2 I J Q N A U V X S t)) (fun a => some (some (.int a), zmk r c0 c1 c2 I J Q N A U V X S t)) _ C.2.1 (fun j a hj => ?_) (fun a => ?_) 0
  · refine (E_X6_tiredAll_4 ..).trans ?_
    have e3 : (13 : Int32) + nI j = nI (13 + j) := nI_add 13 j
    simp only [mo_49, mg_49_0, mg_49_1, mg_49_2, mg_49_3, mg_49_4, mg_49_5, mg_49_6, mg_49_7, mg_49_8, mg_49_9, mg_49_10, mg_49_11, mg_49_12, mg_49_13, mg_49_14, mg_49_15, mg_49_16, mg_49_17, mg_49_18, mg_49_19, mg_49_20, mg_49_21, mg_49_22, mg_49_23, mg_49_24, mg_49_25, Option.bind_some, if_pos (m_lt v k hj), e3, ma_50 (show 13 + j < 4396 by omega), nI_1]
  · refine (E_X6_tiredAll_4 ..).trans ?_
    simp only [mo_49, mg_49_0, mg_49_1, mg_49_2, mg_49_3, mg_49_4, mg_49_5, mg_49_6, mg_49_7, mg_49_8, mg_49_9, mg_49_10, mg_49_11, mg_49_12, mg_49_13, mg_49_14, mg_49_15, mg_49_16, mg_49_17, mg_49_18, mg_49_19, mg_49_20, mg_49_21, mg_49_22, mg_49_23, mg_49_24, mg_49_25, Option.bind_some, if_neg (m_nlt v k)]
def sHung (C : zCs) (H : zA) : Int32 := zfd (fun a m => if H m = -9 then a else a + 1) 0 C.2.1 0
theorem m_hung (v : zMv C U X) (k : zCk C) : zev r i_X6_hungMany 0 [some (.ref (r.1 + 49)), none, none] [] (zmk r c0 c1 c2 I J Q N A U V X S t) = some (some (.int (sHung C (fun m => X 0 (1 + m)))), zmk r c0 c1 c2 I J Q N A U V X S t) := by
  have k2 := k.2.1
  rw [E_X6_hungMany_0]
  refine zloop (fun j (a : Int32) => zev r i_X6_hungMany 4 [some (.ref (r.1 + 49)), some (.int a), some (.int (nI j))] [] (zmk r c0 c1 c2 I J Q N A U V X S t)) (fun a => some (some (.int a), zmk r c0 c1 c2 I J Q N A U V X S t)) _ C.2.1 (fun j a hj => ?_) (fun a => ?_) 0
  · refine (E_X6_hungMany_4 ..).trans ?_
    have e3 : (1 : Int32) + nI j = nI (1 + j) := nI_add 1 j
    simp only [mo_49, mg_49_0, mg_49_1, mg_49_2, mg_49_3, mg_49_4, mg_49_5, mg_49_6, mg_49_7, mg_49_8, mg_49_9, mg_49_10, mg_49_11, mg_49_12, mg_49_13, mg_49_14, mg_49_15, mg_49_16, mg_49_17, mg_49_18, mg_49_19, mg_49_20, mg_49_21, mg_49_22, mg_49_23, mg_49_24, mg_49_25, Option.bind_some, if_pos (m_lt v k hj), e3, ma_50 (show 1 + j < 4396 by omega), nI_1, Int32.add_zero]
    split <;> rfl
  · refine (E_X6_hungMany_4 ..).trans ?_
    simp only [mo_49, mg_49_0, mg_49_1, mg_49_2, mg_49_3, mg_49_4, mg_49_5, mg_49_6, mg_49_7, mg_49_8, mg_49_9, mg_49_10, mg_49_11, mg_49_12, mg_49_13, mg_49_14, mg_49_15, mg_49_16, mg_49_17, mg_49_18, mg_49_19, mg_49_20, mg_49_21, mg_49_22, mg_49_23, mg_49_24, mg_49_25, Option.bind_some, if_neg (m_nlt v k)]
def sMates (C : zCs) (H : zA) : Int32 := zfd (fun a m => zfd (fun a q => a + (if C.2.2.2.2.2 m = C.2.2.2.2.2 q then if sBes C H q m 0 = 0 then 0 else 1 else 0)) 0 m a) 0 C.2.1 0
theorem m_mates (v : zMv C U X) (k : zCk C) : zev r i_X6_matesTried 0 [some (.ref (r.1 + 49)), none, none, none] [] (zmk r c0 c1 c2 I J Q N A U V X S t) = some (some (.int (sMates C S.1)), zmk r c0 c1 c2 I J Q N A U V X S t) := by
  have k2 := k.2.1
  have e8 : X 4 = C.2.2.2.2.2 := v.2.2.2.2.2
  rw [E_X6_matesTried_0]
  refine zloop (fun j (a : Int32) => zev r i_X6_matesTried 4 [some (.ref (r.1 + 49)), some (.int a), some (.int (nI j)), none] [] (zmk r c0 c1 c2 I J Q N A U V X S t)) (fun a => some (some (.int a), zmk r c0 c1 c2 I J Q N A U V X S t)) _ C.2.1 (fun m a hm => ?_) (fun a => ?_) 0
  · refine (E_X6_matesTried_4 ..).trans ?_
    simp only [mo_49, mg_49_0, mg_49_1, mg_49_2, mg_49_3, mg_49_4, mg_49_5, mg_49_6, mg_49_7, mg_49_8, mg_49_9, mg_49_10, mg_49_11, mg_49_12, mg_49_13, mg_49_14, mg_49_15, mg_49_16, mg_49_17, mg_49_18, mg_49_19, mg_49_20, mg_49_21, mg_49_22, mg_49_23, mg_49_24, mg_49_25, Option.bind_some, if_pos (m_lt v k hm)]
    refine zloop (fun j (a : Int32) => zev r i_X6_matesTried 14 [some (.ref (r.1 + 49)), some (.int a), some (.int (nI m)), some (.int (nI j))] [] (zmk r c0 c1 c2 I J Q N A U V X S t)) (fun a => zev r i_X6_matesTried 4 [some (.ref (r.1 + 49)), some (.int a), some (.int (nI (m + 1))), none] [] (zmk r c0 c1 c2 I J Q N A U V X S t)) _ m (fun q a hq => ?_) (fun a => ?_) a
    · refine (E_X6_matesTried_14 ..).trans ?_
      simp only [mo_49, mg_49_0, mg_49_1, mg_49_2, mg_49_3, mg_49_4, mg_49_5, mg_49_6, mg_49_7, mg_49_8, mg_49_9, mg_49_10, mg_49_11, mg_49_12, mg_49_13, mg_49_14, mg_49_15, mg_49_16, mg_49_17, mg_49_18, mg_49_19, mg_49_20, mg_49_21, mg_49_22, mg_49_23, mg_49_24, mg_49_25, Option.bind_some, if_pos (nI_lt hq (show m < 2 ^ 31 by omega)), ma_54 (show m < 6 by omega), ma_54 (show q < 6 by omega), e8, if_true, m_beside1 v k (show q < C.2.1 by omega) hm, zcI_some, nI_1]
      repeat' split
      all_goals rfl
    · refine (E_X6_matesTried_14 ..).trans ?_
      simp only [if_neg (nI_nlt (Nat.le_refl _) (show m < 2 ^ 31 by omega)), nI_1]
  · refine (E_X6_matesTried_4 ..).trans ?_
    simp only [mo_49, mg_49_0, mg_49_1, mg_49_2, mg_49_3, mg_49_4, mg_49_5, mg_49_6, mg_49_7, mg_49_8, mg_49_9, mg_49_10, mg_49_11, mg_49_12, mg_49_13, mg_49_14, mg_49_15, mg_49_16, mg_49_17, mg_49_18, mg_49_19, mg_49_20, mg_49_21, mg_49_22, mg_49_23, mg_49_24, mg_49_25, Option.bind_some, if_neg (m_nlt v k)]
end MODEL
