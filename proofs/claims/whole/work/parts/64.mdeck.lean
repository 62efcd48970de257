/-! DECK: the reference lays a deck -/
section MDECK
variable {r : zE} {c0 c1 c2 : Nat} {I : Nat → Int32} {J : Nat → Int64} {Q : Nat → Nat → Int32} {N A : zBr} {U : Nat → Int32} {V : Nat → Int64} {X : Nat → Nat → Int32} {S : zSs} {t : zH} {g0 g1 g2 g3 g4 : zA}
def zDx (X : Nat → zA) (f0 f1 f2 f3 f4 : zA) : Nat → zA := fun i => if i = 0 then f0 else if i = 1 then f1 else if i = 2 then f2 else if i = 3 then f3 else if i = 4 then f4 else X i
theorem dx_s {X : Nat → zA} : zDx X (X 0) (X 1) (X 2) (X 3) (X 4) = X := by
  funext i
  unfold zDx
  by_cases c0 : i = 0
  · subst c0; rfl
  · rw [if_neg c0]
    by_cases c1 : i = 1
    · subst c1; rfl
    · rw [if_neg c1]
      by_cases c2 : i = 2
      · subst c2; rfl
      · rw [if_neg c2]
        by_cases c3 : i = 3
        · subst c3; rfl
        · rw [if_neg c3]
          by_cases c4 : i = 4
          · subst c4; rfl
          · rw [if_neg c4]
theorem dx_0 {X : Nat → zA} {f : zA} : va_up (zDx X g0 g1 g2 g3 g4) 0 f = zDx X f g1 g2 g3 g4 := by
  funext i
  by_cases c : i = 0
  · subst c; rfl
  · rw [va_ne c]
    unfold zDx
    simp only [c, if_false]
theorem dx_1 {X : Nat → zA} {f : zA} : va_up (zDx X g0 g1 g2 g3 g4) 1 f = zDx X g0 f g2 g3 g4 := by
  funext i
  by_cases c : i = 1
  · subst c; rfl
  · rw [va_ne c]
    unfold zDx
    simp only [c, if_false]
theorem dx_2 {X : Nat → zA} {f : zA} : va_up (zDx X g0 g1 g2 g3 g4) 2 f = zDx X g0 g1 f g3 g4 := by
  funext i
  by_cases c : i = 2
  · subst c; rfl
  · rw [va_ne c]
    unfold zDx
    simp only [c, if_false]
theorem dx_3 {X : Nat → zA} {f : zA} : va_up (zDx X g0 g1 g2 g3 g4) 3 f = zDx X g0 g1 g2 f g4 := by
  funext i
  by_cases c : i = 3
  · subst c; rfl
  · rw [va_ne c]
    unfold zDx
    simp only [c, if_false]
theorem dx_4 {X : Nat → zA} {f : zA} : va_up (zDx X g0 g1 g2 g3 g4) 4 f = zDx X g0 g1 g2 g3 f := by
  funext i
  by_cases c : i = 4
  · subst c; rfl
  · rw [va_ne c]
    unfold zDx
    simp only [c, if_false]
theorem dx0 : zDx X g0 g1 g2 g3 g4 0 = g0 := rfl
theorem dx1 : zDx X g0 g1 g2 g3 g4 1 = g1 := rfl
theorem dx2 : zDx X g0 g1 g2 g3 g4 2 = g2 := rfl
theorem dx3 : zDx X g0 g1 g2 g3 g4 3 = g3 := rfl
theorem dx4 : zDx X g0 g1 g2 g3 g4 4 = g4 := rfl
theorem dx10 : zDx X g0 g1 g2 g3 g4 10 = X 10 := rfl
theorem dx11 : zDx X g0 g1 g2 g3 g4 11 = X 11 := rfl
theorem m_d55 {h : Nat} (h7 : h ≤ 7) (hu : U 0 = nI h) (a : Int32) : zev r i_X6_deck 55 [some (.ref (r.1 + 49)), some (.int a), some (.int 0), none] [] (zmk r c0 c1 c2 I J Q N A U V (zDx X g0 g1 g2 g3 g4) S t) = zev r i_X6_deck 83 [some (.ref (r.1 + 49)), some (.int a), some (.int 0), none] [] (zmk r c0 c1 c2 I J Q N A U V (zDx X g0 (zfd (fun (f : zA) j => upd f j (X 10 j)) 0 h g1) g2 g3 g4) S t) := by
  refine zloop (fun j (f : zA) => zev r i_X6_deck 55 [some (.ref (r.1 + 49)), some (.int a), some (.int (nI j)), none] [] (zmk r c0 c1 c2 I J Q N A U V (zDx X g0 f g2 g3 g4) S t)) (fun f => zev r i_X6_deck 83 [some (.ref (r.1 + 49)), some (.int a), some (.int 0), none] [] (zmk r c0 c1 c2 I J Q N A U V (zDx X g0 f g2 g3 g4) S t)) _ h (fun j f hj => ?_) (fun f => ?_) g1
  · refine (E_X6_deck_55 ..).trans ?_
    simp only [mo_49, mg_49_0, mg_49_1, mg_49_2, mg_49_3, mg_49_4, mg_49_5, mg_49_6, mg_49_7, mg_49_8, mg_49_9, mg_49_10, mg_49_11, mg_49_12, mg_49_13, mg_49_14, mg_49_15, mg_49_16, mg_49_17, mg_49_18, mg_49_19, mg_49_20, mg_49_21, mg_49_22, mg_49_23, mg_49_24, mg_49_25, Option.bind_some, hu, if_pos (nI_lt hj (show h < 2 ^ 31 by omega)), ma_60 (show j < 7 by omega), dx10, mw_51 (show j < 7 by omega), dx1, dx_1, nI_1]
  · refine (E_X6_deck_55 ..).trans ?_
    simp only [mo_49, mg_49_0, mg_49_1, mg_49_2, mg_49_3, mg_49_4, mg_49_5, mg_49_6, mg_49_7, mg_49_8, mg_49_9, mg_49_10, mg_49_11, mg_49_12, mg_49_13, mg_49_14, mg_49_15, mg_49_16, mg_49_17, mg_49_18, mg_49_19, mg_49_20, mg_49_21, mg_49_22, mg_49_23, mg_49_24, mg_49_25, Option.bind_some, hu, if_neg (nI_nlt (Nat.le_refl h) (show h < 2 ^ 31 by omega))]
theorem m_d83 (a : Int32) : zev r i_X6_deck 83 [some (.ref (r.1 + 49)), some (.int a), some (.int 0), none] [] (zmk r c0 c1 c2 I J Q N A U V (zDx X g0 g1 g2 g3 g4) S t) = zev r i_X6_deck 105 [some (.ref (r.1 + 49)), some (.int a), some (.int 0), none] [] (zmk r c0 c1 c2 I J Q N A U V (zDx X (zfd (fun (f : zA) j => upd f j 0) 0 1099 g0) g1 g2 g3 g4) S t) := by
  refine zloop (fun j (f : zA) => zev r i_X6_deck 83 [some (.ref (r.1 + 49)), some (.int a), some (.int (nI j)), none] [] (zmk r c0 c1 c2 I J Q N A U V (zDx X f g1 g2 g3 g4) S t)) (fun f => zev r i_X6_deck 105 [some (.ref (r.1 + 49)), some (.int a), some (.int 0), none] [] (zmk r c0 c1 c2 I J Q N A U V (zDx X f g1 g2 g3 g4) S t)) _ 1099 (fun j f hj => ?_) (fun f => ?_) g0
  · refine (E_X6_deck_83 ..).trans ?_
    simp only [mo_49, mg_49_0, mg_49_1, mg_49_2, mg_49_3, mg_49_4, mg_49_5, mg_49_6, mg_49_7, mg_49_8, mg_49_9, mg_49_10, mg_49_11, mg_49_12, mg_49_13, mg_49_14, mg_49_15, mg_49_16, mg_49_17, mg_49_18, mg_49_19, mg_49_20, mg_49_21, mg_49_22, mg_49_23, mg_49_24, mg_49_25, Option.bind_some, if_pos (show nI j < 1099 from nI_lt (b := 1099) hj (by decide)), mw_50 (show j < 4396 by omega), dx0, dx_0, nI_1]
  · refine (E_X6_deck_83 ..).trans ?_
    rw [if_neg (show ¬ nI 1099 < 1099 by decide)]
/-- a man laid -/
def zLy (Z : zA) (m : Nat) (s : zA × zA × zA × zA) (i : Nat) : zA × zA × zA × zA := if i < m then (upd (upd s.1 (7 + i) (Z (4 * i + 1))) (1 + i) (nI i), upd s.2.1 i (Z (4 * i)), upd s.2.2.1 i (Z (4 * i + 2)), upd s.2.2.2 i (Z (4 * i + 3))) else (upd (upd s.1 (7 + i) 0) (1 + i) (-9), upd s.2.1 i 0, upd s.2.2.1 i 0, upd s.2.2.2 i 0)
theorem m_d105 {m : Nat} (h6 : m ≤ 6) (hu : U 1 = nI m) (a : Int32) : zev r i_X6_deck 105 [some (.ref (r.1 + 49)), some (.int a), some (.int 0), none] [] (zmk r c0 c1 c2 I J Q N A U V (zDx X g0 g1 g2 g3 g4) S t) = zev r i_X6_deck 248 [some (.ref (r.1 + 49)), some (.int a), some (.int 1), none] [] (zmk r c0 c1 c2 I J Q N A U V (zDx X (zfd (zLy (X 11) m) 0 6 (g0, g2, g3, g4)).1 g1 (zfd (zLy (X 11) m) 0 6 (g0, g2, g3, g4)).2.1 (zfd (zLy (X 11) m) 0 6 (g0, g2, g3, g4)).2.2.1 (zfd (zLy (X 11) m) 0 6 (g0, g2, g3, g4)).2.2.2) S t) := by
  refine zloop (fun j (s : zA × zA × zA × zA) => zev r i_X6_deck 105 [some (.ref (r.1 + 49)), some (.int a), some (.int (nI j)), none] [] (zmk r c0 c1 c2 I J Q N A U V (zDx X s.1 g1 s.2.1 s.2.2.1 s.2.2.2) S t)) (fun s => zev r i_X6_deck 248 [some (.ref (r.1 + 49)), some (.int a), some (.int 1), none] [] (zmk r c0 c1 c2 I J Q N A U V (zDx X s.1 g1 s.2.1 s.2.2.1 s.2.2.2) S t)) _ 6 (fun j s hj => ?_) (fun s => ?_) (g0, g2, g3, g4)
  · refine (E_X6_deck_105 ..).trans ?_
    have q0 : (4 : Int32) * nI j = nI (4 * j) := pk_mul 4 _
    have q1 : nI (4 * j) + 1 = nI (4 * j + 1) := nI_add _ 1
    have q2 : nI (4 * j) + 2 = nI (4 * j + 2) := nI_add _ 2
    have q3 : nI (4 * j) + 3 = nI (4 * j + 3) := nI_add _ 3
    have q4 : (1 : Int32) + nI j = nI (1 + j) := nI_add 1 j
    have q7 : (7 : Int32) + nI j = nI (7 + j) := nI_add 7 j
    simp only [if_pos (show nI j < 6 from nI_lt (b := 6) hj (by decide)), mo_49, mg_49_0, mg_49_1, mg_49_2, mg_49_3, mg_49_4, mg_49_5, mg_49_6, mg_49_7, mg_49_8, mg_49_9, mg_49_10, mg_49_11, mg_49_12, mg_49_13, mg_49_14, mg_49_15, mg_49_16, mg_49_17, mg_49_18, mg_49_19, mg_49_20, mg_49_21, mg_49_22, mg_49_23, mg_49_24, mg_49_25, Option.bind_some, hu]
    by_cases c : j < m
    · rw [if_pos (nI_lt c (by omega))]
      simp only [i01, if_false, q0, ma_61 (show 4 * j < 24 by omega), dx11, Option.bind_some, E_X6_deck_146, mw_52 hj, dx2, dx_2, mo_49, mg_49_0, mg_49_1, mg_49_2, mg_49_3, mg_49_4, mg_49_5, mg_49_6, mg_49_7, mg_49_8, mg_49_9, mg_49_10, mg_49_11, mg_49_12, mg_49_13, mg_49_14, mg_49_15, mg_49_16, mg_49_17, mg_49_18, mg_49_19, mg_49_20, mg_49_21, mg_49_22, mg_49_23, mg_49_24, mg_49_25, q2, ma_61 (show 4 * j + 2 < 24 by omega), E_X6_deck_170, mw_53 hj, dx3, dx_3, q3, ma_61 (show 4 * j + 3 < 24 by omega), E_X6_deck_194, mw_54 hj, dx4, dx_4, q1, ma_61 (show 4 * j + 1 < 24 by omega), q7, E_X6_deck_221, mw_50 (show 7 + j < 4396 by omega), dx0, dx_0, q4, mw_50 (show 1 + j < 4396 by omega), nI_1]
      rw [show zLy (X 11) m s j = _ from if_pos c]
    · rw [if_neg (nI_nlt (by omega) (by omega))]
      simp only [if_true, dx11, Option.bind_some, E_X6_deck_146, mw_52 hj, dx2, dx_2, mo_49, mg_49_0, mg_49_1, mg_49_2, mg_49_3, mg_49_4, mg_49_5, mg_49_6, mg_49_7, mg_49_8, mg_49_9, mg_49_10, mg_49_11, mg_49_12, mg_49_13, mg_49_14, mg_49_15, mg_49_16, mg_49_17, mg_49_18, mg_49_19, mg_49_20, mg_49_21, mg_49_22, mg_49_23, mg_49_24, mg_49_25, E_X6_deck_170, mw_53 hj, dx3, dx_3, E_X6_deck_194, mw_54 hj, dx4, dx_4, q7, E_X6_deck_221, mw_50 (show 7 + j < 4396 by omega), dx0, dx_0, q4, mw_50 (show 1 + j < 4396 by omega), nI_1]
      rw [show zLy (X 11) m s j = _ from if_neg c]
  · refine (E_X6_deck_105 ..).trans ?_
    rw [if_neg (show ¬ nI 6 < 6 by decide)]
theorem m_d248 {m : Nat} (hu : U 1 = nI m) (a : Int32) : zev r i_X6_deck 248 [some (.ref (r.1 + 49)), some (.int a), some (.int 1), none] [] (zmk r c0 c1 c2 I J Q N A U V (zDx X g0 g1 g2 g3 g4) S t) = some (some (.int (nI m)), (zmk r c0 c1 c2 I J Q N A U V (zDx X (upd (upd (upd g0 1099 (-1)) 2198 (-1)) 3297 (-1)) g1 g2 g3 g4) S t)) := by
  have st : ∀ (f : zA) (k : Nat), k < 3 → zev r i_X6_deck 248 [some (.ref (r.1 + 49)), some (.int a), some (.int (nI (1 + k))), none] [] (zmk r c0 c1 c2 I J Q N A U V (zDx X f g1 g2 g3 g4) S t) = zev r i_X6_deck 248 [some (.ref (r.1 + 49)), some (.int a), some (.int (nI (1 + k + 1))), none] [] (zmk r c0 c1 c2 I J Q N A U V (zDx X (upd f (1099 * (1 + k)) (-1)) g1 g2 g3 g4) S t) := fun f k hk => by
    refine (E_X6_deck_248 ..).trans ?_
    have q : (1099 : Int32) * nI (1 + k) + 0 = nI (1099 * (1 + k)) := by rw [Int32.add_zero]; exact pk_mul 1099 _
    simp only [if_pos (show nI (1 + k) < 4 from nI_lt (b := 4) (by omega) (by decide)), mo_49, mg_49_0, mg_49_1, mg_49_2, mg_49_3, mg_49_4, mg_49_5, mg_49_6, mg_49_7, mg_49_8, mg_49_9, mg_49_10, mg_49_11, mg_49_12, mg_49_13, mg_49_14, mg_49_15, mg_49_16, mg_49_17, mg_49_18, mg_49_19, mg_49_20, mg_49_21, mg_49_22, mg_49_23, mg_49_24, mg_49_25, Option.bind_some, q, mw_50 (show 1099 * (1 + k) < 4396 by omega), dx0, dx_0, nI_1]
  refine (st g0 0 (by decide)).trans ((st _ 1 (by decide)).trans ((st _ 2 (by decide)).trans ?_))
  refine (E_X6_deck_248 ..).trans ?_
  rw [if_neg (show ¬ nI (1 + 2 + 1) < 4 by decide)]
  simp only [mo_49, mg_49_0, mg_49_1, mg_49_2, mg_49_3, mg_49_4, mg_49_5, mg_49_6, mg_49_7, mg_49_8, mg_49_9, mg_49_10, mg_49_11, mg_49_12, mg_49_13, mg_49_14, mg_49_15, mg_49_16, mg_49_17, mg_49_18, mg_49_19, mg_49_20, mg_49_21, mg_49_22, mg_49_23, mg_49_24, mg_49_25, Option.bind_some, hu]
/-- what lies in the row at the end -/
def zDw (Z : zA) (m : Nat) (g0 g2 g3 g4 : zA) : zA × zA × zA × zA := zfd (zLy Z m) 0 6 (zfd (fun (f : zA) j => upd f j 0) 0 1099 g0, g2, g3, g4)
theorem dz_of (g0 : zA) {i : Nat} (hi : i < 1099) : zfd (fun (f : zA) j => upd f j 0) 0 1099 g0 i = 0 := by
  have : ∀ n, i < n → zfd (fun (f : zA) j => upd f j 0) 0 n g0 i = 0 := fun n hn => by
    have := zfd_inv (f := fun (f : zA) j => upd f j 0) (fun q g => i < q → g i = 0) (j := 0) (n := n) (s := g0) (fun h => absurd h (Nat.not_lt_zero _)) (fun g q _ _ ih h => by
      by_cases e : i = q
      · subst e; exact upd_s
      · exact (upd_n e).trans (ih (by omega)))
    exact this (by omega)
  exact this _ hi
theorem dw_of' (Z : zA) {m : Nat} (h6 : m ≤ 6) (f0 g2 g3 g4 : zA) (z0 : ∀ i, i < 1099 → f0 i = 0) : (∀ i, i < m → (zfd (zLy Z m) 0 6 (f0, g2, g3, g4)).2.1 i = Z (4 * i) ∧ (zfd (zLy Z m) 0 6 (f0, g2, g3, g4)).2.2.1 i = Z (4 * i + 2) ∧ (zfd (zLy Z m) 0 6 (f0, g2, g3, g4)).2.2.2 i = Z (4 * i + 3) ∧ (zfd (zLy Z m) 0 6 (f0, g2, g3, g4)).1 (7 + i) = Z (4 * i + 1) ∧ (zfd (zLy Z m) 0 6 (f0, g2, g3, g4)).1 (1 + i) = nI i ∧ (zfd (zLy Z m) 0 6 (f0, g2, g3, g4)).1 (13 + i) = 0) ∧ (zfd (zLy Z m) 0 6 (f0, g2, g3, g4)).1 0 = 0 := by
  have := zfd_inv (f := zLy Z m) (fun q (s : zA × zA × zA × zA) => (∀ i, i < q → i < m → s.2.1 i = Z (4 * i) ∧ s.2.2.1 i = Z (4 * i + 2) ∧ s.2.2.2 i = Z (4 * i + 3) ∧ s.1 (7 + i) = Z (4 * i + 1) ∧ s.1 (1 + i) = nI i) ∧ (∀ i, i < 6 → s.1 (13 + i) = 0) ∧ s.1 0 = 0) (j := 0) (n := 6) (s := (f0, g2, g3, g4)) ⟨fun i h => absurd h (Nat.not_lt_zero _), fun i hi => z0 _ (by omega), z0 _ (by omega)⟩ (fun s q _ hq ih => by
    obtain ⟨i1, i2, i3⟩ := ih
    by_cases c : q < m
    · rw [show zLy Z m s q = (upd (upd s.1 (7 + q) (Z (4 * q + 1))) (1 + q) (nI q), upd s.2.1 q (Z (4 * q)), upd s.2.2.1 q (Z (4 * q + 2)), upd s.2.2.2 q (Z (4 * q + 3))) from if_pos c]
      refine ⟨fun i h1 h2 => ?_, fun i hi => ?_, ?_⟩
      · dsimp only
        by_cases e : i = q
        · subst e
          rw [upd_s, upd_s, upd_s, upd_n (by omega), upd_s, upd_s]
          exact ⟨rfl, rfl, rfl, rfl, rfl⟩
        · rw [upd_n e, upd_n e, upd_n e, upd_n (by omega), upd_n (by omega), upd_n (by omega), upd_n (by omega)]
          exact i1 i (by omega) h2
      · dsimp only
        rw [upd_n (by omega), upd_n (by omega)]
        exact i2 i hi
      · dsimp only
        rw [upd_n (by omega), upd_n (by omega)]
        exact i3
    · rw [show zLy Z m s q = (upd (upd s.1 (7 + q) 0) (1 + q) (-9), upd s.2.1 q 0, upd s.2.2.1 q 0, upd s.2.2.2 q 0) from if_neg c]
      refine ⟨fun i h1 h2 => ?_, fun i hi => ?_, ?_⟩
      · dsimp only
        rw [upd_n (by omega), upd_n (by omega), upd_n (by omega), upd_n (by omega), upd_n (by omega), upd_n (by omega), upd_n (by omega)]
        exact i1 i (by omega) h2
      · dsimp only
        rw [upd_n (by omega), upd_n (by omega)]
        exact i2 i hi
      · dsimp only
        rw [upd_n (by omega), upd_n (by omega)]
        exact i3)
  obtain ⟨i1, i2, i3⟩ := this
  exact ⟨fun i hi => by
    obtain ⟨a1, a2, a3, a4, a5⟩ := i1 i (by omega) hi
    exact ⟨a1, a2, a3, a4, a5, i2 i (by omega)⟩, i3⟩
theorem dw_of (Z : zA) {m : Nat} (h6 : m ≤ 6) (g0 g2 g3 g4 : zA) : (∀ i, i < m → (zDw Z m g0 g2 g3 g4).2.1 i = Z (4 * i) ∧ (zDw Z m g0 g2 g3 g4).2.2.1 i = Z (4 * i + 2) ∧ (zDw Z m g0 g2 g3 g4).2.2.2 i = Z (4 * i + 3) ∧ (zDw Z m g0 g2 g3 g4).1 (7 + i) = Z (4 * i + 1) ∧ (zDw Z m g0 g2 g3 g4).1 (1 + i) = nI i ∧ (zDw Z m g0 g2 g3 g4).1 (13 + i) = 0) ∧ (zDw Z m g0 g2 g3 g4).1 0 = 0 := dw_of' Z h6 _ g2 g3 g4 fun i hi => dz_of g0 hi
theorem d1_of (Y : zA) {h i : Nat} (hi : i < h) (g : zA) : zfd (fun (f : zA) j => upd f j (Y j)) 0 h g i = Y i := by
  have := zfd_inv (f := fun (f : zA) j => upd f j (Y j)) (fun q g => i < q → g i = Y i) (j := 0) (n := h) (s := g) (fun h => absurd h (Nat.not_lt_zero _)) (fun g q _ _ ih h => by
    by_cases e : i = q
    · subst e; exact upd_s
    · exact (upd_n e).trans (ih (by omega)))
  exact this (by omega)
theorem m_dlay {h m : Nat} (h7 : h ≤ 7) (h6 : m ≤ 6) (hu : U 0 = nI h) (hu1 : U 1 = nI m) (a : Int32) : zev r i_X6_deck 55 [some (.ref (r.1 + 49)), some (.int a), some (.int 0), none] [] (zmk r c0 c1 c2 I J Q N A U V X S t) = some (some (.int (nI m)), (zmk r c0 c1 c2 I J Q N A U V (zDx X (upd (upd (upd (zDw (X 11) m (X 0) (X 2) (X 3) (X 4)).1 1099 (-1)) 2198 (-1)) 3297 (-1)) (zfd (fun (f : zA) j => upd f j (X 10 j)) 0 h (X 1)) (zDw (X 11) m (X 0) (X 2) (X 3) (X 4)).2.1 (zDw (X 11) m (X 0) (X 2) (X 3) (X 4)).2.2.1 (zDw (X 11) m (X 0) (X 2) (X 3) (X 4)).2.2.2) S t)) := by
  have e1 := m_d55 (r := r) (c0 := c0) (c1 := c1) (c2 := c2) (I := I) (J := J) (Q := Q) (N := N) (A := A) (V := V) (X := X) (S := S) (t := t) (g0 := X 0) (g1 := X 1) (g2 := X 2) (g3 := X 3) (g4 := X 4) h7 hu a
  rw [dx_s] at e1
  exact e1.trans ((m_d83 a).trans ((m_d105 h6 hu1 a).trans (m_d248 hu1 a)))
end MDECK
