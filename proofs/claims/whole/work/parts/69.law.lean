/-! THE LAW'S RUN -/
section LAW
variable {r : zE} {b L : Nat} {xs : Nat → Int32} {n : Nat} {h : zH}
theorem st_up {m : Nat} (st : zSt r n h) (hm : n ≤ m) : zSt r m h := by
  obtain ⟨C, c, c2, I, J, Q, N, A, U, V, X, S, t, e, iv, t1, t2⟩ := st
  exact ⟨C, c, c2, I, J, Q, N, A, U, V, X, S, t, e, iv, by omega, by omega⟩
theorem st_o5 (st : zSt r n h) : zob r h (r.1 + 0) 5 = true := by
  obtain ⟨C, c, c2, I, J, Q, N, A, U, V, X, S, t, rfl, -⟩ := st
  exact mo_0
theorem w_rd (hE : zEnv r b L xs) (hL : L ≤ 3072) {i k : Nat} (hi : i + k < L) (h : zH) : zaI r h b (nI i + nI k) = some (xs (i + k)) := by
  rw [nI_add]
  exact zaI_old hE.1 hE.2.1 hi (by omega)
theorem w_cmp (v : Int64) : lg_cmp v v = 0 := by
  unfold lg_cmp
  rw [if_neg Int64.lt_irrefl, if_pos rfl]
theorem w_ch {c : Prop} [Decidable c] {A B : Option zRes} {P : zH → Option zRes} {Q : zH → Prop} (ha : c → ∃ h2, A = P h2 ∧ Q h2) (hb : ¬ c → ∃ h2, B = P h2 ∧ Q h2) : ∃ h2, (if c then A else B) = P h2 ∧ Q h2 := by
  by_cases q : c
  · rw [if_pos q]; exact ha q
  · rw [if_neg q]; exact hb q
theorem w_228 (hE : zEnv r b L xs) (hL : L ≤ 3072) {i : Nat} (hi : i + 6 ≤ L) (st : zSt r n h) : ∃ h2, zev r i_L_law 228 [some (.ref b), some (.ref (r.1 + 0)), some (.ref (r.1 + 49)), some (.int (nI i))] [] h = zev r i_L_law 1486 [some (.ref b), some (.ref (r.1 + 0)), some (.ref (r.1 + 49)), some (.int (nI i))] [] h2 ∧ zSt r (n + 1) h2 := by
  obtain ⟨v, h1, h2, p1, q, p2, s⟩ := lk_row (xs (i + 1)) (xs (i + 2)) st
  refine ⟨h2, (E_L_law_228 ..).trans ?_, st_up s (by omega)⟩
  have a1 : ∀ h, zaI r h b (nI i + 1) = some (xs (i + 1)) := w_rd hE hL (k := 1) (by omega)
  have a2 : ∀ h, zaI r h b (nI i + 2) = some (xs (i + 2)) := w_rd hE hL (k := 2) (by omega)
  simp only [a1, a2, Option.bind_some, st_o5 st, if_true, p1, zcI_some, q, p2]
theorem w_261 (hE : zEnv r b L xs) (hL : L ≤ 3072) {i : Nat} (hi : i + 6 ≤ L) (st : zSt r n h) : ∃ h2, zev r i_L_law 261 [some (.ref b), some (.ref (r.1 + 0)), some (.ref (r.1 + 49)), some (.int (nI i))] [] h = zev r i_L_law 1486 [some (.ref b), some (.ref (r.1 + 0)), some (.ref (r.1 + 49)), some (.int (nI i))] [] h2 ∧ zSt r (n + 1) h2 := by
  obtain ⟨v, h1, h2, p1, q, p2, s⟩ := lk_lay (xs (i + 1)) (xs (i + 2)) (xs (i + 3)) st
  refine ⟨h2, (E_L_law_261 ..).trans ?_, st_up s (by omega)⟩
  have a1 : ∀ h, zaI r h b (nI i + 1) = some (xs (i + 1)) := w_rd hE hL (k := 1) (by omega)
  have a2 : ∀ h, zaI r h b (nI i + 2) = some (xs (i + 2)) := w_rd hE hL (k := 2) (by omega)
  have a3 : ∀ h, zaI r h b (nI i + 3) = some (xs (i + 3)) := w_rd hE hL (k := 3) (by omega)
  simp only [a1, a2, a3, Option.bind_some, st_o5 st, if_true, p1, zcI_some, q, p2]
theorem w_304 (hE : zEnv r b L xs) (hL : L ≤ 3072) {i : Nat} (hi : i + 6 ≤ L) (st : zSt r n h) : ∃ h2, zev r i_L_law 304 [some (.ref b), some (.ref (r.1 + 0)), some (.ref (r.1 + 49)), some (.int (nI i))] [] h = zev r i_L_law 1486 [some (.ref b), some (.ref (r.1 + 0)), some (.ref (r.1 + 49)), some (.int (nI i))] [] h2 ∧ zSt r (n + 1) h2 := by
  obtain ⟨v, h1, h2, p1, q, p2, s⟩ := lk_at (xs (i + 1)) (xs (i + 2)) st
  refine ⟨h2, (E_L_law_304 ..).trans ?_, st_up s (by omega)⟩
  have a1 : ∀ h, zaI r h b (nI i + 1) = some (xs (i + 1)) := w_rd hE hL (k := 1) (by omega)
  have a2 : ∀ h, zaI r h b (nI i + 2) = some (xs (i + 2)) := w_rd hE hL (k := 2) (by omega)
  simp only [a1, a2, Option.bind_some, st_o5 st, if_true, p1, zcI_some, q, p2]
theorem w_337 (hE : zEnv r b L xs) (hL : L ≤ 3072) {i : Nat} (hi : i + 6 ≤ L) (st : zSt r n h) : ∃ h2, zev r i_L_law 337 [some (.ref b), some (.ref (r.1 + 0)), some (.ref (r.1 + 49)), some (.int (nI i))] [] h = zev r i_L_law 1486 [some (.ref b), some (.ref (r.1 + 0)), some (.ref (r.1 + 49)), some (.int (nI i))] [] h2 ∧ zSt r (n + 1) h2 := by
  obtain ⟨v, h1, h2, p1, q, p2, s⟩ := lk_tear (xs (i + 1)) st
  refine ⟨h2, (E_L_law_337 ..).trans ?_, st_up s (by omega)⟩
  have a1 : ∀ h, zaI r h b (nI i + 1) = some (xs (i + 1)) := w_rd hE hL (k := 1) (by omega)
  simp only [a1, Option.bind_some, st_o5 st, if_true, p1, zcI_some, q, p2]
theorem w_360 (hE : zEnv r b L xs) (hL : L ≤ 3072) {i : Nat} (hi : i + 6 ≤ L) (st : zSt r n h) : ∃ h2, zev r i_L_law 360 [some (.ref b), some (.ref (r.1 + 0)), some (.ref (r.1 + 49)), some (.int (nI i))] [] h = zev r i_L_law 1486 [some (.ref b), some (.ref (r.1 + 0)), some (.ref (r.1 + 49)), some (.int (nI i))] [] h2 ∧ zSt r (n + 1) h2 := by
  obtain ⟨v, h1, h2, p1, q, p2, s⟩ := lk_copy (xs (i + 1)) (xs (i + 2)) (xs (i + 3)) (xs (i + 4)) (xs (i + 5)) st
  refine ⟨h2, (E_L_law_360 ..).trans ?_, st_up s (by omega)⟩
  have a1 : ∀ h, zaI r h b (nI i + 1) = some (xs (i + 1)) := w_rd hE hL (k := 1) (by omega)
  have a2 : ∀ h, zaI r h b (nI i + 2) = some (xs (i + 2)) := w_rd hE hL (k := 2) (by omega)
  have a3 : ∀ h, zaI r h b (nI i + 3) = some (xs (i + 3)) := w_rd hE hL (k := 3) (by omega)
  have a4 : ∀ h, zaI r h b (nI i + 4) = some (xs (i + 4)) := w_rd hE hL (k := 4) (by omega)
  have a5 : ∀ h, zaI r h b (nI i + 5) = some (xs (i + 5)) := w_rd hE hL (k := 5) (by omega)
  simp only [a1, a2, a3, a4, a5, Option.bind_some, st_o5 st, if_true, p1, zcI_some, q, p2]
theorem w_423 (hE : zEnv r b L xs) (hL : L ≤ 3072) {i : Nat} (hi : i + 6 ≤ L) (st : zSt r n h) : ∃ h2, zev r i_L_law 423 [some (.ref b), some (.ref (r.1 + 0)), some (.ref (r.1 + 49)), some (.int (nI i))] [] h = zev r i_L_law 1486 [some (.ref b), some (.ref (r.1 + 0)), some (.ref (r.1 + 49)), some (.int (nI i))] [] h2 ∧ zSt r (n + 1) h2 := by
  obtain ⟨v, h1, h2, p1, q, p2, s⟩ := lk_mean (xs (i + 1)) st
  refine ⟨h2, (E_L_law_423 ..).trans ?_, st_up s (by omega)⟩
  have a1 : ∀ h, zaI r h b (nI i + 1) = some (xs (i + 1)) := w_rd hE hL (k := 1) (by omega)
  simp only [a1, Option.bind_some, st_o5 st, if_true, p1, zcI_some, q, p2]
theorem w_446 (hE : zEnv r b L xs) (hL : L ≤ 3072) {i : Nat} (hi : i + 6 ≤ L) (st : zSt r n h) : ∃ h2, zev r i_L_law 446 [some (.ref b), some (.ref (r.1 + 0)), some (.ref (r.1 + 49)), some (.int (nI i))] [] h = zev r i_L_law 1486 [some (.ref b), some (.ref (r.1 + 0)), some (.ref (r.1 + 49)), some (.int (nI i))] [] h2 ∧ zSt r (n + 1) h2 := by
  obtain ⟨v, h1, h2, p1, q, p2, s⟩ := lk_text (xs (i + 1)) (xs (i + 2)) st
  refine ⟨h2, (E_L_law_446 ..).trans ?_, st_up s (by omega)⟩
  have a1 : ∀ h, zaI r h b (nI i + 1) = some (xs (i + 1)) := w_rd hE hL (k := 1) (by omega)
  have a2 : ∀ h, zaI r h b (nI i + 2) = some (xs (i + 2)) := w_rd hE hL (k := 2) (by omega)
  simp only [a1, a2, Option.bind_some, st_o5 st, if_true, p1, zcI_some, q, p2]
theorem w_479 (hE : zEnv r b L xs) (hL : L ≤ 3072) {i : Nat} (hi : i + 6 ≤ L) (st : zSt r n h) : ∃ h2, zev r i_L_law 479 [some (.ref b), some (.ref (r.1 + 0)), some (.ref (r.1 + 49)), some (.int (nI i))] [] h = zev r i_L_law 1486 [some (.ref b), some (.ref (r.1 + 0)), some (.ref (r.1 + 49)), some (.int (nI i))] [] h2 ∧ zSt r (n + 1) h2 := by
  obtain ⟨v, h1, h2, p1, q, p2, s⟩ := lk_put (xs (i + 1)) (xs (i + 2)) (xs (i + 3)) st
  refine ⟨h2, (E_L_law_479 ..).trans ?_, st_up s (by omega)⟩
  have a1 : ∀ h, zaI r h b (nI i + 1) = some (xs (i + 1)) := w_rd hE hL (k := 1) (by omega)
  have a2 : ∀ h, zaI r h b (nI i + 2) = some (xs (i + 2)) := w_rd hE hL (k := 2) (by omega)
  have a3 : ∀ h, zaI r h b (nI i + 3) = some (xs (i + 3)) := w_rd hE hL (k := 3) (by omega)
  simp only [a1, a2, a3, Option.bind_some, st_o5 st, if_true, p1, zcI_some, q, p2]
theorem w_522 (hE : zEnv r b L xs) (hL : L ≤ 3072) {i : Nat} (hi : i + 6 ≤ L) (st : zSt r n h) : ∃ h2, zev r i_L_law 522 [some (.ref b), some (.ref (r.1 + 0)), some (.ref (r.1 + 49)), some (.int (nI i))] [] h = zev r i_L_law 1486 [some (.ref b), some (.ref (r.1 + 0)), some (.ref (r.1 + 49)), some (.int (nI i))] [] h2 ∧ zSt r (n + 1) h2 := by
  obtain ⟨v, h1, h2, p1, q, p2, s⟩ := lk_fault hE.2.2 (xs (i + 1)) st
  refine ⟨h2, (E_L_law_522 ..).trans ?_, s⟩
  have a1 : ∀ h, zaI r h b (nI i + 1) = some (xs (i + 1)) := w_rd hE hL (k := 1) (by omega)
  simp only [a1, Option.bind_some, st_o5 st, if_true, p1, zcI_some, q, p2]
theorem w_545 (hE : zEnv r b L xs) (hL : L ≤ 3072) {i : Nat} (hi : i + 6 ≤ L) (st : zSt r n h) : ∃ h2, zev r i_L_law 545 [some (.ref b), some (.ref (r.1 + 0)), some (.ref (r.1 + 49)), some (.int (nI i))] [] h = zev r i_L_law 1486 [some (.ref b), some (.ref (r.1 + 0)), some (.ref (r.1 + 49)), some (.int (nI i))] [] h2 ∧ zSt r (n + 1) h2 := by
  obtain ⟨v, h1, h2, p1, q, p2, s⟩ := lk_deck hE.2.2 (xs (i + 1)) st
  refine ⟨h2, (E_L_law_545 ..).trans ?_, s⟩
  have a1 : ∀ h, zaI r h b (nI i + 1) = some (xs (i + 1)) := w_rd hE hL (k := 1) (by omega)
  simp only [a1, Option.bind_some, st_o5 st, if_true, p1, zcI_some, q, p2]
theorem w_568 (hE : zEnv r b L xs) (hL : L ≤ 3072) {i : Nat} (hi : i + 6 ≤ L) (st : zSt r n h) : ∃ h2, zev r i_L_law 568 [some (.ref b), some (.ref (r.1 + 0)), some (.ref (r.1 + 49)), some (.int (nI i))] [] h = zev r i_L_law 1486 [some (.ref b), some (.ref (r.1 + 0)), some (.ref (r.1 + 49)), some (.int (nI i))] [] h2 ∧ zSt r (n + 1) h2 := by
  obtain ⟨v, h1, h2, p1, q, p2, s⟩ := lk_man (xs (i + 1)) (xs (i + 2)) st
  refine ⟨h2, (E_L_law_568 ..).trans ?_, st_up s (by omega)⟩
  have a1 : ∀ h, zaI r h b (nI i + 1) = some (xs (i + 1)) := w_rd hE hL (k := 1) (by omega)
  have a2 : ∀ h, zaI r h b (nI i + 2) = some (xs (i + 2)) := w_rd hE hL (k := 2) (by omega)
  simp only [a1, a2, Option.bind_some, st_o5 st, if_true, p1, zcI_some, q, p2]
theorem w_601 (hE : zEnv r b L xs) (hL : L ≤ 3072) {i : Nat} (hi : i + 6 ≤ L) (st : zSt r n h) : ∃ h2, zev r i_L_law 601 [some (.ref b), some (.ref (r.1 + 0)), some (.ref (r.1 + 49)), some (.int (nI i))] [] h = zev r i_L_law 1486 [some (.ref b), some (.ref (r.1 + 0)), some (.ref (r.1 + 49)), some (.int (nI i))] [] h2 ∧ zSt r (n + 1) h2 := by
  obtain ⟨v, h1, h2, p1, q, p2, s⟩ := lk_hook (xs (i + 1)) (xs (i + 2)) st
  refine ⟨h2, (E_L_law_601 ..).trans ?_, st_up s (by omega)⟩
  have a1 : ∀ h, zaI r h b (nI i + 1) = some (xs (i + 1)) := w_rd hE hL (k := 1) (by omega)
  have a2 : ∀ h, zaI r h b (nI i + 2) = some (xs (i + 2)) := w_rd hE hL (k := 2) (by omega)
  simp only [a1, a2, Option.bind_some, st_o5 st, if_true, p1, zcI_some, q, p2]
theorem w_634 (hE : zEnv r b L xs) (hL : L ≤ 3072) {i : Nat} (hi : i + 6 ≤ L) (st : zSt r n h) : ∃ h2, zev r i_L_law 634 [some (.ref b), some (.ref (r.1 + 0)), some (.ref (r.1 + 49)), some (.int (nI i))] [] h = zev r i_L_law 1486 [some (.ref b), some (.ref (r.1 + 0)), some (.ref (r.1 + 49)), some (.int (nI i))] [] h2 ∧ zSt r (n + 1) h2 := by
  obtain ⟨v, h1, h2, p1, q, p2, s⟩ := lk_mark hE.2.2 (xs (i + 1)) (xs (i + 2)) st
  refine ⟨h2, (E_L_law_634 ..).trans ?_, st_up s (by omega)⟩
  have a1 : ∀ h, zaI r h b (nI i + 1) = some (xs (i + 1)) := w_rd hE hL (k := 1) (by omega)
  have a2 : ∀ h, zaI r h b (nI i + 2) = some (xs (i + 2)) := w_rd hE hL (k := 2) (by omega)
  simp only [a1, a2, Option.bind_some, st_o5 st, if_true, p1, zcI_some, q, p2]
theorem w_667 (hE : zEnv r b L xs) (hL : L ≤ 3072) {i : Nat} (hi : i + 6 ≤ L) (st : zSt r n h) : ∃ h2, zev r i_L_law 667 [some (.ref b), some (.ref (r.1 + 0)), some (.ref (r.1 + 49)), some (.int (nI i))] [] h = zev r i_L_law 1486 [some (.ref b), some (.ref (r.1 + 0)), some (.ref (r.1 + 49)), some (.int (nI i))] [] h2 ∧ zSt r (n + 1) h2 := by
  obtain ⟨v, h1, h2, p1, q, p2, s⟩ := lk_hang (xs (i + 1)) (xs (i + 2)) st
  refine ⟨h2, (E_L_law_667 ..).trans ?_, st_up s (by omega)⟩
  have a1 : ∀ h, zaI r h b (nI i + 1) = some (xs (i + 1)) := w_rd hE hL (k := 1) (by omega)
  have a2 : ∀ h, zaI r h b (nI i + 2) = some (xs (i + 2)) := w_rd hE hL (k := 2) (by omega)
  simp only [a1, a2, Option.bind_some, st_o5 st, if_true, p1, zcI_some, q, p2]
theorem w_700 (hE : zEnv r b L xs) (hL : L ≤ 3072) {i : Nat} (hi : i + 6 ≤ L) (st : zSt r n h) : ∃ h2, zev r i_L_law 700 [some (.ref b), some (.ref (r.1 + 0)), some (.ref (r.1 + 49)), some (.int (nI i))] [] h = zev r i_L_law 1486 [some (.ref b), some (.ref (r.1 + 0)), some (.ref (r.1 + 49)), some (.int (nI i))] [] h2 ∧ zSt r (n + 1) h2 := by
  obtain ⟨v, h1, h2, p1, q, p2, s⟩ := lk_down (xs (i + 1)) st
  refine ⟨h2, (E_L_law_700 ..).trans ?_, st_up s (by omega)⟩
  have a1 : ∀ h, zaI r h b (nI i + 1) = some (xs (i + 1)) := w_rd hE hL (k := 1) (by omega)
  simp only [a1, Option.bind_some, st_o5 st, if_true, p1, zcI_some, q, p2]
theorem w_723 (hE : zEnv r b L xs) (hL : L ≤ 3072) {i : Nat} (hi : i + 6 ≤ L) (st : zSt r n h) : ∃ h2, zev r i_L_law 723 [some (.ref b), some (.ref (r.1 + 0)), some (.ref (r.1 + 49)), some (.int (nI i))] [] h = zev r i_L_law 1486 [some (.ref b), some (.ref (r.1 + 0)), some (.ref (r.1 + 49)), some (.int (nI i))] [] h2 ∧ zSt r (n + 1) h2 := by
  obtain ⟨v, h1, h2, p1, q, p2, s⟩ := lk_change (xs (i + 1)) (xs (i + 2)) st
  refine ⟨h2, (E_L_law_723 ..).trans ?_, st_up s (by omega)⟩
  have a1 : ∀ h, zaI r h b (nI i + 1) = some (xs (i + 1)) := w_rd hE hL (k := 1) (by omega)
  have a2 : ∀ h, zaI r h b (nI i + 2) = some (xs (i + 2)) := w_rd hE hL (k := 2) (by omega)
  simp only [a1, a2, Option.bind_some, st_o5 st, if_true, p1, zcI_some, q, p2]
theorem w_756 (hE : zEnv r b L xs) (hL : L ≤ 3072) {i : Nat} (hi : i + 6 ≤ L) (st : zSt r n h) : ∃ h2, zev r i_L_law 756 [some (.ref b), some (.ref (r.1 + 0)), some (.ref (r.1 + 49)), some (.int (nI i))] [] h = zev r i_L_law 1486 [some (.ref b), some (.ref (r.1 + 0)), some (.ref (r.1 + 49)), some (.int (nI i))] [] h2 ∧ zSt r (n + 1) h2 := by
  obtain ⟨v, h1, h2, p1, q, p2, s⟩ := lk_line (xs (i + 1)) (xs (i + 2)) st
  refine ⟨h2, (E_L_law_756 ..).trans ?_, st_up s (by omega)⟩
  have a1 : ∀ h, zaI r h b (nI i + 1) = some (xs (i + 1)) := w_rd hE hL (k := 1) (by omega)
  have a2 : ∀ h, zaI r h b (nI i + 2) = some (xs (i + 2)) := w_rd hE hL (k := 2) (by omega)
  simp only [a1, a2, Option.bind_some, st_o5 st, if_true, p1, zcI_some, q, p2]
theorem w_789 (hE : zEnv r b L xs) (hL : L ≤ 3072) {i : Nat} (hi : i + 6 ≤ L) (st : zSt r n h) : ∃ h2, zev r i_L_law 789 [some (.ref b), some (.ref (r.1 + 0)), some (.ref (r.1 + 49)), some (.int (nI i))] [] h = zev r i_L_law 1486 [some (.ref b), some (.ref (r.1 + 0)), some (.ref (r.1 + 49)), some (.int (nI i))] [] h2 ∧ zSt r (n + 1) h2 := by
  obtain ⟨v, h1, h2, p1, q, p2, s⟩ := lk_night hE.2.2 (xs (i + 1)) st
  refine ⟨h2, (E_L_law_789 ..).trans ?_, st_up s (by omega)⟩
  have a1 : ∀ h, zaI r h b (nI i + 1) = some (xs (i + 1)) := w_rd hE hL (k := 1) (by omega)
  simp only [a1, Option.bind_some, st_o5 st, if_true, p1, zcI_some, q, p2]
theorem w_812 (hE : zEnv r b L xs) (hL : L ≤ 3072) {i : Nat} (hi : i + 6 ≤ L) (st : zSt r n h) : ∃ h2, zev r i_L_law 812 [some (.ref b), some (.ref (r.1 + 0)), some (.ref (r.1 + 49)), some (.int (nI i))] [] h = zev r i_L_law 1486 [some (.ref b), some (.ref (r.1 + 0)), some (.ref (r.1 + 49)), some (.int (nI i))] [] h2 ∧ zSt r (n + 1) h2 := by
  obtain ⟨v, h1, h2, p1, q, p2, s⟩ := lk_undo (xs (i + 1)) st
  refine ⟨h2, (E_L_law_812 ..).trans ?_, st_up s (by omega)⟩
  have a1 : ∀ h, zaI r h b (nI i + 1) = some (xs (i + 1)) := w_rd hE hL (k := 1) (by omega)
  simp only [a1, Option.bind_some, st_o5 st, if_true, p1, zcI_some, q, p2]
theorem w_835 (hE : zEnv r b L xs) (hL : L ≤ 3072) {i : Nat} (hi : i + 6 ≤ L) (st : zSt r n h) : ∃ h2, zev r i_L_law 835 [some (.ref b), some (.ref (r.1 + 0)), some (.ref (r.1 + 49)), some (.int (nI i))] [] h = zev r i_L_law 1486 [some (.ref b), some (.ref (r.1 + 0)), some (.ref (r.1 + 49)), some (.int (nI i))] [] h2 ∧ zSt r (n + 1) h2 := by
  obtain ⟨v, h1, h2, p1, q, p2, s⟩ := lk_keep (xs (i + 1)) st
  refine ⟨h2, (E_L_law_835 ..).trans ?_, st_up s (by omega)⟩
  have a1 : ∀ h, zaI r h b (nI i + 1) = some (xs (i + 1)) := w_rd hE hL (k := 1) (by omega)
  simp only [a1, Option.bind_some, st_o5 st, if_true, p1, zcI_some, q, p2]
theorem w_858 (hE : zEnv r b L xs) (hL : L ≤ 3072) {i : Nat} (hi : i + 6 ≤ L) (st : zSt r n h) : ∃ h2, zev r i_L_law 858 [some (.ref b), some (.ref (r.1 + 0)), some (.ref (r.1 + 49)), some (.int (nI i))] [] h = zev r i_L_law 1486 [some (.ref b), some (.ref (r.1 + 0)), some (.ref (r.1 + 49)), some (.int (nI i))] [] h2 ∧ zSt r (n + 1) h2 := by
  obtain ⟨v, h1, h2, p1, q, p2, s⟩ := lk_on (xs (i + 1)) st
  refine ⟨h2, (E_L_law_858 ..).trans ?_, st_up s (by omega)⟩
  have a1 : ∀ h, zaI r h b (nI i + 1) = some (xs (i + 1)) := w_rd hE hL (k := 1) (by omega)
  simp only [a1, Option.bind_some, st_o5 st, if_true, p1, zcI_some, q, p2]
theorem w_881 (hE : zEnv r b L xs) (hL : L ≤ 3072) {i : Nat} (hi : i + 6 ≤ L) (st : zSt r n h) : ∃ h2, zev r i_L_law 881 [some (.ref b), some (.ref (r.1 + 0)), some (.ref (r.1 + 49)), some (.int (nI i))] [] h = zev r i_L_law 1486 [some (.ref b), some (.ref (r.1 + 0)), some (.ref (r.1 + 49)), some (.int (nI i))] [] h2 ∧ zSt r (n + 1) h2 := by
  obtain ⟨v, h1, h2, p1, q, p2, s⟩ := lk_neighbours (xs (i + 1)) (xs (i + 2)) st
  refine ⟨h2, (E_L_law_881 ..).trans ?_, st_up s (by omega)⟩
  have a1 : ∀ h, zaI r h b (nI i + 1) = some (xs (i + 1)) := w_rd hE hL (k := 1) (by omega)
  have a2 : ∀ h, zaI r h b (nI i + 2) = some (xs (i + 2)) := w_rd hE hL (k := 2) (by omega)
  simp only [a1, a2, Option.bind_some, st_o5 st, if_true, p1, zcI_some, q, p2]
theorem w_914 (hE : zEnv r b L xs) (hL : L ≤ 3072) {i : Nat} (hi : i + 6 ≤ L) (st : zSt r n h) : ∃ h2, zev r i_L_law 914 [some (.ref b), some (.ref (r.1 + 0)), some (.ref (r.1 + 49)), some (.int (nI i))] [] h = zev r i_L_law 1486 [some (.ref b), some (.ref (r.1 + 0)), some (.ref (r.1 + 49)), some (.int (nI i))] [] h2 ∧ zSt r (n + 1) h2 := by
  obtain ⟨v, h1, h2, p1, q, p2, s⟩ := lk_woken hE.2.2 (xs (i + 1)) (xs (i + 2)) st
  refine ⟨h2, (E_L_law_914 ..).trans ?_, st_up s (by omega)⟩
  have a1 : ∀ h, zaI r h b (nI i + 1) = some (xs (i + 1)) := w_rd hE hL (k := 1) (by omega)
  have a2 : ∀ h, zaI r h b (nI i + 2) = some (xs (i + 2)) := w_rd hE hL (k := 2) (by omega)
  simp only [a1, a2, Option.bind_some, st_o5 st, if_true, p1, zcI_some, q, p2]
theorem w_947 (hE : zEnv r b L xs) (hL : L ≤ 3072) {i : Nat} (hi : i + 6 ≤ L) (st : zSt r n h) : ∃ h2, zev r i_L_law 947 [some (.ref b), some (.ref (r.1 + 0)), some (.ref (r.1 + 49)), some (.int (nI i))] [] h = zev r i_L_law 1486 [some (.ref b), some (.ref (r.1 + 0)), some (.ref (r.1 + 49)), some (.int (nI i))] [] h2 ∧ zSt r (n + 1) h2 := by
  obtain ⟨v, h1, h2, p1, q, p2, s⟩ := lk_all hE.2.2 (xs (i + 1)) st
  refine ⟨h2, (E_L_law_947 ..).trans ?_, st_up s (by omega)⟩
  have a1 : ∀ h, zaI r h b (nI i + 1) = some (xs (i + 1)) := w_rd hE hL (k := 1) (by omega)
  simp only [a1, Option.bind_some, st_o5 st, if_true, p1, zcI_some, q, p2]
theorem w_970 (hE : zEnv r b L xs) (hL : L ≤ 3072) {i : Nat} (hi : i + 6 ≤ L) (st : zSt r n h) : ∃ h2, zev r i_L_law 970 [some (.ref b), some (.ref (r.1 + 0)), some (.ref (r.1 + 49)), some (.int (nI i))] [] h = zev r i_L_law 1486 [some (.ref b), some (.ref (r.1 + 0)), some (.ref (r.1 + 49)), some (.int (nI i))] [] h2 ∧ zSt r (n + 1) h2 := by
  obtain ⟨v, h1, h2, p1, q, p2, s⟩ := lk_worst hE.2.2 (xs (i + 1)) st
  refine ⟨h2, (E_L_law_970 ..).trans ?_, st_up s (by omega)⟩
  have a1 : ∀ h, zaI r h b (nI i + 1) = some (xs (i + 1)) := w_rd hE hL (k := 1) (by omega)
  simp only [a1, Option.bind_some, st_o5 st, if_true, p1, zcI_some, q, p2]
theorem w_993 (hE : zEnv r b L xs) (hL : L ≤ 3072) {i : Nat} (hi : i + 6 ≤ L) (st : zSt r n h) : ∃ h2, zev r i_L_law 993 [some (.ref b), some (.ref (r.1 + 0)), some (.ref (r.1 + 49)), some (.int (nI i))] [] h = zev r i_L_law 1486 [some (.ref b), some (.ref (r.1 + 0)), some (.ref (r.1 + 49)), some (.int (nI i))] [] h2 ∧ zSt r (n + 1) h2 := by
  obtain ⟨v, h1, h2, p1, q, p2, s⟩ := lk_by hE.2.2 (xs (i + 1)) (xs (i + 2)) st
  refine ⟨h2, (E_L_law_993 ..).trans ?_, st_up s (by omega)⟩
  have a1 : ∀ h, zaI r h b (nI i + 1) = some (xs (i + 1)) := w_rd hE hL (k := 1) (by omega)
  have a2 : ∀ h, zaI r h b (nI i + 2) = some (xs (i + 2)) := w_rd hE hL (k := 2) (by omega)
  simp only [a1, a2, Option.bind_some, st_o5 st, if_true, p1, zcI_some, q, p2]
theorem w_1026 (hE : zEnv r b L xs) (hL : L ≤ 3072) {i : Nat} (hi : i + 6 ≤ L) (st : zSt r n h) : ∃ h2, zev r i_L_law 1026 [some (.ref b), some (.ref (r.1 + 0)), some (.ref (r.1 + 49)), some (.int (nI i))] [] h = zev r i_L_law 1486 [some (.ref b), some (.ref (r.1 + 0)), some (.ref (r.1 + 49)), some (.int (nI i))] [] h2 ∧ zSt r (n + 1) h2 := by
  obtain ⟨v, h1, h2, p1, q, p2, s⟩ := lk_best hE.2.2 (xs (i + 1)) (xs (i + 2)) st
  refine ⟨h2, (E_L_law_1026 ..).trans ?_, st_up s (by omega)⟩
  have a1 : ∀ h, zaI r h b (nI i + 1) = some (xs (i + 1)) := w_rd hE hL (k := 1) (by omega)
  have a2 : ∀ h, zaI r h b (nI i + 2) = some (xs (i + 2)) := w_rd hE hL (k := 2) (by omega)
  simp only [a1, a2, Option.bind_some, st_o5 st, if_true, p1, zcI_some, q, p2]
theorem w_1059 (hE : zEnv r b L xs) (hL : L ≤ 3072) {i : Nat} (hi : i + 6 ≤ L) (st : zSt r n h) : ∃ h2, zev r i_L_law 1059 [some (.ref b), some (.ref (r.1 + 0)), some (.ref (r.1 + 49)), some (.int (nI i))] [] h = zev r i_L_law 1486 [some (.ref b), some (.ref (r.1 + 0)), some (.ref (r.1 + 49)), some (.int (nI i))] [] h2 ∧ zSt r (n + 1) h2 := by
  obtain ⟨v, h1, h2, p1, q, p2, s⟩ := lk_fair hE.2.2 (xs (i + 1)) (xs (i + 2)) st
  refine ⟨h2, (E_L_law_1059 ..).trans ?_, st_up s (by omega)⟩
  have a1 : ∀ h, zaI r h b (nI i + 1) = some (xs (i + 1)) := w_rd hE hL (k := 1) (by omega)
  have a2 : ∀ h, zaI r h b (nI i + 2) = some (xs (i + 2)) := w_rd hE hL (k := 2) (by omega)
  simp only [a1, a2, Option.bind_some, st_o5 st, if_true, p1, zcI_some, q, p2]
theorem w_1092 (hE : zEnv r b L xs) (hL : L ≤ 3072) {i : Nat} (hi : i + 6 ≤ L) (st : zSt r n h) : ∃ h2, zev r i_L_law 1092 [some (.ref b), some (.ref (r.1 + 0)), some (.ref (r.1 + 49)), some (.int (nI i))] [] h = zev r i_L_law 1486 [some (.ref b), some (.ref (r.1 + 0)), some (.ref (r.1 + 49)), some (.int (nI i))] [] h2 ∧ zSt r (n + 1) h2 := by
  obtain ⟨v, h1, h2, p1, q, p2, s⟩ := lk_mixed hE.2.2 (xs (i + 1)) st
  refine ⟨h2, (E_L_law_1092 ..).trans ?_, st_up s (by omega)⟩
  have a1 : ∀ h, zaI r h b (nI i + 1) = some (xs (i + 1)) := w_rd hE hL (k := 1) (by omega)
  simp only [a1, Option.bind_some, st_o5 st, if_true, p1, zcI_some, q, p2]
theorem w_1115 (hE : zEnv r b L xs) (hL : L ≤ 3072) {i : Nat} (hi : i + 6 ≤ L) (st : zSt r n h) : ∃ h2, zev r i_L_law 1115 [some (.ref b), some (.ref (r.1 + 0)), some (.ref (r.1 + 49)), some (.int (nI i))] [] h = zev r i_L_law 1486 [some (.ref b), some (.ref (r.1 + 0)), some (.ref (r.1 + 49)), some (.int (nI i))] [] h2 ∧ zSt r (n + 1) h2 := by
  obtain ⟨v, h1, h2, p1, q, p2, s⟩ := lk_judge hE.2.2 (xs (i + 1)) (xs (i + 2)) st
  refine ⟨h2, (E_L_law_1115 ..).trans ?_, st_up s (by omega)⟩
  have a1 : ∀ h, zaI r h b (nI i + 1) = some (xs (i + 1)) := w_rd hE hL (k := 1) (by omega)
  have a2 : ∀ h, zaI r h b (nI i + 2) = some (xs (i + 2)) := w_rd hE hL (k := 2) (by omega)
  simp only [a1, a2, Option.bind_some, st_o5 st, if_true, p1, zcI_some, q, p2]
theorem w_1148 (hE : zEnv r b L xs) (hL : L ≤ 3072) {i : Nat} (hi : i + 6 ≤ L) (st : zSt r n h) : ∃ h2, zev r i_L_law 1148 [some (.ref b), some (.ref (r.1 + 0)), some (.ref (r.1 + 49)), some (.int (nI i))] [] h = zev r i_L_law 1486 [some (.ref b), some (.ref (r.1 + 0)), some (.ref (r.1 + 49)), some (.int (nI i))] [] h2 ∧ zSt r (n + 1) h2 := by
  obtain ⟨v, h1, h2, p1, q, p2, s⟩ := lk_gain hE.2.2 (xs (i + 1)) (xs (i + 2)) (xs (i + 3)) st
  refine ⟨h2, (E_L_law_1148 ..).trans ?_, st_up s (by omega)⟩
  have a1 : ∀ h, zaI r h b (nI i + 1) = some (xs (i + 1)) := w_rd hE hL (k := 1) (by omega)
  have a2 : ∀ h, zaI r h b (nI i + 2) = some (xs (i + 2)) := w_rd hE hL (k := 2) (by omega)
  have a3 : ∀ h, zaI r h b (nI i + 3) = some (xs (i + 3)) := w_rd hE hL (k := 3) (by omega)
  simp only [a1, a2, a3, Option.bind_some, st_o5 st, if_true, p1, zcI_some, q, p2]
theorem w_1191 (hE : zEnv r b L xs) (hL : L ≤ 3072) {i : Nat} (hi : i + 6 ≤ L) (st : zSt r n h) : ∃ h2, zev r i_L_law 1191 [some (.ref b), some (.ref (r.1 + 0)), some (.ref (r.1 + 49)), some (.int (nI i))] [] h = zev r i_L_law 1486 [some (.ref b), some (.ref (r.1 + 0)), some (.ref (r.1 + 49)), some (.int (nI i))] [] h2 ∧ zSt r (n + 1) h2 := by
  obtain ⟨v, h1, h2, p1, q, p2, s⟩ := lk_calm hE.2.2 (xs (i + 1)) st
  refine ⟨h2, (E_L_law_1191 ..).trans ?_, st_up s (by omega)⟩
  have a1 : ∀ h, zaI r h b (nI i + 1) = some (xs (i + 1)) := w_rd hE hL (k := 1) (by omega)
  simp only [a1, Option.bind_some, st_o5 st, if_true, p1, zcI_some, q, p2]
theorem w_1214 (hE : zEnv r b L xs) (hL : L ≤ 3072) {i : Nat} (hi : i + 6 ≤ L) (st : zSt r n h) : ∃ h2, zev r i_L_law 1214 [some (.ref b), some (.ref (r.1 + 0)), some (.ref (r.1 + 49)), some (.int (nI i))] [] h = zev r i_L_law 1486 [some (.ref b), some (.ref (r.1 + 0)), some (.ref (r.1 + 49)), some (.int (nI i))] [] h2 ∧ zSt r (n + 1) h2 := by
  obtain ⟨v, h1, h2, p1, q, p2, s⟩ := lk_mates st
  refine ⟨h2, (E_L_law_1214 ..).trans ?_, st_up s (by omega)⟩
  simp only [Option.bind_some, st_o5 st, if_true, p1, zcI_some, q, p2]
theorem w_1227 (hE : zEnv r b L xs) (hL : L ≤ 3072) {i : Nat} (hi : i + 6 ≤ L) (st : zSt r n h) : ∃ h2, zev r i_L_law 1227 [some (.ref b), some (.ref (r.1 + 0)), some (.ref (r.1 + 49)), some (.int (nI i))] [] h = zev r i_L_law 1486 [some (.ref b), some (.ref (r.1 + 0)), some (.ref (r.1 + 49)), some (.int (nI i))] [] h2 ∧ zSt r (n + 1) h2 := by
  obtain ⟨v, h1, h2, p1, q, p2, s⟩ := lk_cut hE.2.2 (xs (i + 1)) (xs (i + 2)) st
  refine ⟨h2, (E_L_law_1227 ..).trans ?_, st_up s (by omega)⟩
  have a1 : ∀ h, zaI r h b (nI i + 1) = some (xs (i + 1)) := w_rd hE hL (k := 1) (by omega)
  have a2 : ∀ h, zaI r h b (nI i + 2) = some (xs (i + 2)) := w_rd hE hL (k := 2) (by omega)
  simp only [a1, a2, Option.bind_some, st_o5 st, if_true, p1, zcI_some, q, p2]
theorem w_1260 (hE : zEnv r b L xs) (hL : L ≤ 3072) {i : Nat} (hi : i + 6 ≤ L) (st : zSt r n h) : ∃ h2, zev r i_L_law 1260 [some (.ref b), some (.ref (r.1 + 0)), some (.ref (r.1 + 49)), some (.int (nI i))] [] h = zev r i_L_law 1486 [some (.ref b), some (.ref (r.1 + 0)), some (.ref (r.1 + 49)), some (.int (nI i))] [] h2 ∧ zSt r (n + 1) h2 := by
  obtain ⟨v, h1, h2, p1, q, p2, s⟩ := lk_up hE.2.2 (xs (i + 1)) (xs (i + 2)) st
  refine ⟨h2, (E_L_law_1260 ..).trans ?_, st_up s (by omega)⟩
  have a1 : ∀ h, zaI r h b (nI i + 1) = some (xs (i + 1)) := w_rd hE hL (k := 1) (by omega)
  have a2 : ∀ h, zaI r h b (nI i + 2) = some (xs (i + 2)) := w_rd hE hL (k := 2) (by omega)
  simp only [a1, a2, Option.bind_some, st_o5 st, if_true, p1, zcI_some, q, p2]
theorem w_1293 (hE : zEnv r b L xs) (hL : L ≤ 3072) {i : Nat} (hi : i + 6 ≤ L) (st : zSt r n h) : ∃ h2, zev r i_L_law 1293 [some (.ref b), some (.ref (r.1 + 0)), some (.ref (r.1 + 49)), some (.int (nI i))] [] h = zev r i_L_law 1486 [some (.ref b), some (.ref (r.1 + 0)), some (.ref (r.1 + 49)), some (.int (nI i))] [] h2 ∧ zSt r (n + 1) h2 := by
  obtain ⟨v, h1, h2, p1, q, p2, s⟩ := lk_fits hE.2.2 (xs (i + 1)) st
  refine ⟨h2, (E_L_law_1293 ..).trans ?_, st_up s (by omega)⟩
  have a1 : ∀ h, zaI r h b (nI i + 1) = some (xs (i + 1)) := w_rd hE hL (k := 1) (by omega)
  simp only [a1, Option.bind_some, st_o5 st, if_true, p1, zcI_some, q, p2]
theorem w_1316 (hE : zEnv r b L xs) (hL : L ≤ 3072) {i : Nat} (hi : i + 6 ≤ L) (st : zSt r n h) : ∃ h2, zev r i_L_law 1316 [some (.ref b), some (.ref (r.1 + 0)), some (.ref (r.1 + 49)), some (.int (nI i))] [] h = zev r i_L_law 1486 [some (.ref b), some (.ref (r.1 + 0)), some (.ref (r.1 + 49)), some (.int (nI i))] [] h2 ∧ zSt r (n + 1) h2 := by
  obtain ⟨v, h1, h2, p1, q, p2, s⟩ := lk_mid hE.2.2 (xs (i + 1)) st
  refine ⟨h2, (E_L_law_1316 ..).trans ?_, st_up s (by omega)⟩
  have a1 : ∀ h, zaI r h b (nI i + 1) = some (xs (i + 1)) := w_rd hE hL (k := 1) (by omega)
  simp only [a1, Option.bind_some, st_o5 st, if_true, p1, zcI_some, q, p2]
theorem w_1339 (hE : zEnv r b L xs) (hL : L ≤ 3072) {i : Nat} (hi : i + 6 ≤ L) (st : zSt r n h) : ∃ h2, zev r i_L_law 1339 [some (.ref b), some (.ref (r.1 + 0)), some (.ref (r.1 + 49)), some (.int (nI i))] [] h = zev r i_L_law 1486 [some (.ref b), some (.ref (r.1 + 0)), some (.ref (r.1 + 49)), some (.int (nI i))] [] h2 ∧ zSt r (n + 1) h2 := by
  obtain ⟨v, h1, h2, p1, q, p2, s⟩ := lk_lots hE.2.2 (xs (i + 1)) (xs (i + 2)) st
  refine ⟨h2, (E_L_law_1339 ..).trans ?_, st_up s (by omega)⟩
  have a1 : ∀ h, zaI r h b (nI i + 1) = some (xs (i + 1)) := w_rd hE hL (k := 1) (by omega)
  have a2 : ∀ h, zaI r h b (nI i + 2) = some (xs (i + 2)) := w_rd hE hL (k := 2) (by omega)
  simp only [a1, a2, Option.bind_some, st_o5 st, if_true, p1, zcI_some, q, p2]
theorem w_1372 (hE : zEnv r b L xs) (hL : L ≤ 3072) {i : Nat} (hi : i + 6 ≤ L) (st : zSt r n h) : ∃ h2, zev r i_L_law 1372 [some (.ref b), some (.ref (r.1 + 0)), some (.ref (r.1 + 49)), some (.int (nI i))] [] h = zev r i_L_law 1486 [some (.ref b), some (.ref (r.1 + 0)), some (.ref (r.1 + 49)), some (.int (nI i))] [] h2 ∧ zSt r (n + 1) h2 := by
  obtain ⟨v, h1, h2, p1, q, p2, s⟩ := lk_asked st
  refine ⟨h2, (E_L_law_1372 ..).trans ?_, st_up s (by omega)⟩
  simp only [Option.bind_some, st_o5 st, if_true, p1, zcI_some, q, p2]
theorem w_1385 (hE : zEnv r b L xs) (hL : L ≤ 3072) {i : Nat} (hi : i + 6 ≤ L) (st : zSt r n h) : ∃ h2, zev r i_L_law 1385 [some (.ref b), some (.ref (r.1 + 0)), some (.ref (r.1 + 49)), some (.int (nI i))] [] h = zev r i_L_law 1486 [some (.ref b), some (.ref (r.1 + 0)), some (.ref (r.1 + 49)), some (.int (nI i))] [] h2 ∧ zSt r (n + 1) h2 := by
  obtain ⟨v, h1, h2, p1, q, p2, s⟩ := lk_upper st
  refine ⟨h2, (E_L_law_1385 ..).trans ?_, st_up s (by omega)⟩
  simp only [Option.bind_some, st_o5 st, if_true, p1, zcL_some, q, p2, w_cmp]
theorem w_1399 (hE : zEnv r b L xs) (hL : L ≤ 3072) {i : Nat} (hi : i + 6 ≤ L) (st : zSt r n h) : ∃ h2, zev r i_L_law 1399 [some (.ref b), some (.ref (r.1 + 0)), some (.ref (r.1 + 49)), some (.int (nI i))] [] h = zev r i_L_law 1486 [some (.ref b), some (.ref (r.1 + 0)), some (.ref (r.1 + 49)), some (.int (nI i))] [] h2 ∧ zSt r (n + 1) h2 := by
  obtain ⟨v, h1, h2, p1, q, p2, s⟩ := lk_lower st
  refine ⟨h2, (E_L_law_1399 ..).trans ?_, st_up s (by omega)⟩
  simp only [Option.bind_some, st_o5 st, if_true, p1, zcL_some, q, p2, w_cmp]
theorem w_1413 (hE : zEnv r b L xs) (hL : L ≤ 3072) {i : Nat} (hi : i + 6 ≤ L) (st : zSt r n h) : ∃ h2, zev r i_L_law 1413 [some (.ref b), some (.ref (r.1 + 0)), some (.ref (r.1 + 49)), some (.int (nI i))] [] h = zev r i_L_law 1486 [some (.ref b), some (.ref (r.1 + 0)), some (.ref (r.1 + 49)), some (.int (nI i))] [] h2 ∧ zSt r (n + 1) h2 := by
  obtain ⟨v, h1, h2, p1, q, p2, s⟩ := lk_count (xs (i + 1)) st
  refine ⟨h2, (E_L_law_1413 ..).trans ?_, st_up s (by omega)⟩
  have a1 : ∀ h, zaI r h b (nI i + 1) = some (xs (i + 1)) := w_rd hE hL (k := 1) (by omega)
  simp only [a1, Option.bind_some, st_o5 st, if_true, p1, zcI_some, q, p2]
theorem w_1436 (hE : zEnv r b L xs) (hL : L ≤ 3072) {i : Nat} (hi : i + 6 ≤ L) (st : zSt r n h) : ∃ h2, zev r i_L_law 1436 [some (.ref b), some (.ref (r.1 + 0)), some (.ref (r.1 + 49)), some (.int (nI i))] [] h = zev r i_L_law 1486 [some (.ref b), some (.ref (r.1 + 0)), some (.ref (r.1 + 49)), some (.int (nI i))] [] h2 ∧ zSt r (n + 1) h2 := by
  obtain ⟨v, h1, h2, p1, q, p2, s⟩ := lk_finding st
  refine ⟨h2, (E_L_law_1436 ..).trans ?_, st_up s (by omega)⟩
  simp only [Option.bind_some, st_o5 st, if_true, p1, zcI_some, q, p2]
theorem w_1449 (hE : zEnv r b L xs) (hL : L ≤ 3072) {i : Nat} (hi : i + 6 ≤ L) (st : zSt r n h) : ∃ h2, zev r i_L_law 1449 [some (.ref b), some (.ref (r.1 + 0)), some (.ref (r.1 + 49)), some (.int (nI i))] [] h = zev r i_L_law 1486 [some (.ref b), some (.ref (r.1 + 0)), some (.ref (r.1 + 49)), some (.int (nI i))] [] h2 ∧ zSt r (n + 1) h2 := by
  obtain ⟨v, h1, h2, p1, q, p2, s⟩ := lk_findings (xs (i + 1)) st
  refine ⟨h2, (E_L_law_1449 ..).trans ?_, st_up s (by omega)⟩
  have a1 : ∀ h, zaI r h b (nI i + 1) = some (xs (i + 1)) := w_rd hE hL (k := 1) (by omega)
  simp only [a1, Option.bind_some, st_o5 st, if_true, p1, zcI_some, q, p2]
theorem w_1472 (hE : zEnv r b L xs) (hL : L ≤ 3072) {i : Nat} (hi : i + 6 ≤ L) (st : zSt r n h) : ∃ h2, zev r i_L_law 1472 [some (.ref b), some (.ref (r.1 + 0)), some (.ref (r.1 + 49)), some (.int (nI i))] [] h = zev r i_L_law 1486 [some (.ref b), some (.ref (r.1 + 0)), some (.ref (r.1 + 49)), some (.int (nI i))] [] h2 ∧ zSt r (n + 1) h2 := by
  obtain ⟨v, h1, h2, p1, q, p2, s⟩ := lk_digest hE.2.2 st
  refine ⟨h2, (E_L_law_1472 ..).trans ?_, st_up s (by omega)⟩
  simp only [Option.bind_some, st_o5 st, if_true, p1, zcL_some, q, p2, w_cmp]
theorem w_one (hE : zEnv r b L xs) (hL : L ≤ 3072) {i : Nat} (hi : i + 6 ≤ L) (st : zSt r n h) : ∃ h2, zev r i_L_law 18 [some (.ref b), some (.ref (r.1 + 0)), some (.ref (r.1 + 49)), some (.int (nI i))] [] h = zev r i_L_law 18 [some (.ref b), some (.ref (r.1 + 0)), some (.ref (r.1 + 49)), some (.int (nI (i + 6)))] [] h2 ∧ zSt r (n + 1) h2 := by
  have key : ∃ h2, zev r i_L_law 18 [some (.ref b), some (.ref (r.1 + 0)), some (.ref (r.1 + 49)), some (.int (nI i))] [] h = zev r i_L_law 1486 [some (.ref b), some (.ref (r.1 + 0)), some (.ref (r.1 + 49)), some (.int (nI i))] [] h2 ∧ zSt r (n + 1) h2 := by
    rw [E_L_law_18, zaN_old hE.1 hE.2.1, Option.bind_some, nI_of0, show (6 : Int32) = nI 6 from rfl, pk_sub (show 6 ≤ L by omega), if_neg (nI_nlt (by omega) (by omega)), zaI_old hE.1 hE.2.1 (show i < L by omega) (by omega), Option.bind_some]
    exact w_ch (fun _ => w_228 hE hL hi st) (fun _ => w_ch (fun _ => w_261 hE hL hi st) (fun _ => w_ch (fun _ => w_304 hE hL hi st) (fun _ => w_ch (fun _ => w_337 hE hL hi st) (fun _ => w_ch (fun _ => w_360 hE hL hi st) (fun _ => w_ch (fun _ => w_423 hE hL hi st) (fun _ => w_ch (fun _ => w_446 hE hL hi st) (fun _ => w_ch (fun _ => w_479 hE hL hi st) (fun _ => w_ch (fun _ => w_522 hE hL hi st) (fun _ => w_ch (fun _ => w_545 hE hL hi st) (fun _ => w_ch (fun _ => w_568 hE hL hi st) (fun _ => w_ch (fun _ => w_601 hE hL hi st) (fun _ => w_ch (fun _ => w_634 hE hL hi st) (fun _ => w_ch (fun _ => w_667 hE hL hi st) (fun _ => w_ch (fun _ => w_700 hE hL hi st) (fun _ => w_ch (fun _ => w_723 hE hL hi st) (fun _ => w_ch (fun _ => w_756 hE hL hi st) (fun _ => w_ch (fun _ => w_789 hE hL hi st) (fun _ => w_ch (fun _ => w_812 hE hL hi st) (fun _ => w_ch (fun _ => w_835 hE hL hi st) (fun _ => w_ch (fun _ => w_858 hE hL hi st) (fun _ => w_ch (fun _ => w_881 hE hL hi st) (fun _ => w_ch (fun _ => w_914 hE hL hi st) (fun _ => w_ch (fun _ => w_947 hE hL hi st) (fun _ => w_ch (fun _ => w_970 hE hL hi st) (fun _ => w_ch (fun _ => w_993 hE hL hi st) (fun _ => w_ch (fun _ => w_1026 hE hL hi st) (fun _ => w_ch (fun _ => w_1059 hE hL hi st) (fun _ => w_ch (fun _ => w_1092 hE hL hi st) (fun _ => w_ch (fun _ => w_1115 hE hL hi st) (fun _ => w_ch (fun _ => w_1148 hE hL hi st) (fun _ => w_ch (fun _ => w_1191 hE hL hi st) (fun _ => w_ch (fun _ => w_1214 hE hL hi st) (fun _ => w_ch (fun _ => w_1227 hE hL hi st) (fun _ => w_ch (fun _ => w_1260 hE hL hi st) (fun _ => w_ch (fun _ => w_1293 hE hL hi st) (fun _ => w_ch (fun _ => w_1316 hE hL hi st) (fun _ => w_ch (fun _ => w_1339 hE hL hi st) (fun _ => w_ch (fun _ => w_1372 hE hL hi st) (fun _ => w_ch (fun _ => w_1385 hE hL hi st) (fun _ => w_ch (fun _ => w_1399 hE hL hi st) (fun _ => w_ch (fun _ => w_1413 hE hL hi st) (fun _ => w_ch (fun _ => w_1436 hE hL hi st) (fun _ => w_ch (fun _ => w_1449 hE hL hi st) (fun _ => w_ch (fun _ => w_1472 hE hL hi st) (fun _ => ⟨h, rfl, st_up st (by omega)⟩)))))))))))))))))))))))))))))))))))))))))))))
  obtain ⟨h2, e, s⟩ := key
  refine ⟨h2, e.trans ((E_L_law_1486 ..).trans ?_), s⟩
  rw [show (6 : Int32) = nI 6 from rfl, nI_add]
theorem w_loop (hE : zEnv r b L xs) (hL : L ≤ 3072) : ∀ (f i n : Nat) (h : zH), zSt r n h → L < i + 6 * f + 6 → i ≤ L → n + f ≤ 600 → ∃ g, zev r i_L_law 18 [some (.ref b), some (.ref (r.1 + 0)), some (.ref (r.1 + 49)), some (.int (nI i))] [] h = some (some (.int 1), g) ∧ zSt r 600 g
  | f, i, n, h, st, h1, h2, h3 => by
    by_cases c : L < i + 6
    · refine ⟨h, (E_L_law_18 ..).trans ?_, st_up st (by omega)⟩
      rw [zaN_old hE.1 hE.2.1, Option.bind_some, nI_of0, show (6 : Int32) = nI 6 from rfl, if_pos]
      by_cases d : L < 6
      · exact Int32.lt_of_lt_of_le (pk_sneg (by omega) d) (nI_pos' (by omega))
      · rw [pk_sub (by omega)]
        exact nI_lt (by omega) (by omega)
    · match f, h1, h3 with
      | 0, h1, h3 => exact absurd h1 (by omega)
      | f + 1, h1, h3 =>
        obtain ⟨h', e, s⟩ := w_one hE hL (i := i) (by omega) st
        obtain ⟨g, e2, s2⟩ := w_loop hE hL f (i + 6) (n + 1) h' s (by omega) (by omega) (by omega)
        exact ⟨g, e.trans e2, s2⟩
theorem hs_n : zhs [] ≤ 4396 * 0 := Nat.le_refl _
theorem hs_c {c : zC} {l : zH} {k : Nat} (h : zcs c ≤ 4396) (hl : zhs l ≤ 4396 * k) : zhs (c :: l) ≤ 4396 * (k + 1) := by
  have : zhs (c :: l) = zcs c + zhs l := rfl
  rw [this, Nat.mul_succ]
  omega
theorem zmk_hs (c0 c1 c2 : Nat) (I : zA) (J : Nat → Int64) (Q : Nat → zA) (N A : zBr) (U : zA) (V : Nat → Int64) (X : Nat → zA) (S : zSs) : zhs (zmk r c0 c1 c2 I J Q N A U V X S []) ≤ 4396 * 65 := by
  unfold zmk
  rw [List.append_nil]
  refine hs_c (Nat.le_of_ble_eq_true rfl) ?_
  refine hs_c (Nat.le_of_ble_eq_true rfl) ?_
  refine hs_c (Nat.le_of_ble_eq_true rfl) ?_
  refine hs_c (Nat.le_of_ble_eq_true rfl) ?_
  refine hs_c (Nat.le_of_ble_eq_true rfl) ?_
  refine hs_c (Nat.le_of_ble_eq_true rfl) ?_
  refine hs_c (Nat.le_of_ble_eq_true rfl) ?_
  refine hs_c (Nat.le_of_ble_eq_true rfl) ?_
  refine hs_c (Nat.le_of_ble_eq_true rfl) ?_
  refine hs_c (Nat.le_of_ble_eq_true rfl) ?_
  refine hs_c (Nat.le_of_ble_eq_true rfl) ?_
  refine hs_c (Nat.le_of_ble_eq_true rfl) ?_
  refine hs_c (Nat.le_of_ble_eq_true rfl) ?_
  refine hs_c (Nat.le_of_ble_eq_true rfl) ?_
  refine hs_c (Nat.le_of_ble_eq_true rfl) ?_
  refine hs_c (Nat.le_of_ble_eq_true rfl) ?_
  refine hs_c (Nat.le_of_ble_eq_true rfl) ?_
  refine hs_c (Nat.le_of_ble_eq_true rfl) ?_
  refine hs_c (Nat.le_of_ble_eq_true rfl) ?_
  refine hs_c (Nat.le_of_ble_eq_true rfl) ?_
  refine hs_c (Nat.le_of_ble_eq_true rfl) ?_
  refine hs_c (Nat.le_of_ble_eq_true rfl) ?_
  refine hs_c (Nat.le_of_ble_eq_true rfl) ?_
  refine hs_c (Nat.le_of_ble_eq_true rfl) ?_
  refine hs_c (Nat.le_of_ble_eq_true rfl) ?_
  refine hs_c (Nat.le_of_ble_eq_true rfl) ?_
  refine hs_c (Nat.le_of_ble_eq_true rfl) ?_
  refine hs_c (Nat.le_of_ble_eq_true rfl) ?_
  refine hs_c (Nat.le_of_ble_eq_true rfl) ?_
  refine hs_c (Nat.le_of_ble_eq_true rfl) ?_
  refine hs_c (Nat.le_of_ble_eq_true rfl) ?_
  refine hs_c (Nat.le_of_ble_eq_true rfl) ?_
  refine hs_c (Nat.le_of_ble_eq_true rfl) ?_
  refine hs_c (Nat.le_of_ble_eq_true rfl) ?_
  refine hs_c (Nat.le_of_ble_eq_true rfl) ?_
  refine hs_c (Nat.le_of_ble_eq_true rfl) ?_
  refine hs_c (Nat.le_of_ble_eq_true rfl) ?_
  refine hs_c (Nat.le_of_ble_eq_true rfl) ?_
  refine hs_c (Nat.le_of_ble_eq_true rfl) ?_
  refine hs_c (Nat.le_of_ble_eq_true rfl) ?_
  refine hs_c (Nat.le_of_ble_eq_true rfl) ?_
  refine hs_c (Nat.le_of_ble_eq_true rfl) ?_
  refine hs_c (Nat.le_of_ble_eq_true rfl) ?_
  refine hs_c (Nat.le_of_ble_eq_true rfl) ?_
  refine hs_c (Nat.le_of_ble_eq_true rfl) ?_
  refine hs_c (Nat.le_of_ble_eq_true rfl) ?_
  refine hs_c (Nat.le_of_ble_eq_true rfl) ?_
  refine hs_c (Nat.le_of_ble_eq_true rfl) ?_
  refine hs_c (Nat.le_of_ble_eq_true rfl) ?_
  refine hs_c (Nat.le_of_ble_eq_true rfl) ?_
  refine hs_c (Nat.le_of_ble_eq_true rfl) ?_
  refine hs_c (Nat.le_of_ble_eq_true rfl) ?_
  refine hs_c (Nat.le_of_ble_eq_true rfl) ?_
  refine hs_c (Nat.le_of_ble_eq_true rfl) ?_
  refine hs_c (Nat.le_of_ble_eq_true rfl) ?_
  refine hs_c (Nat.le_of_ble_eq_true rfl) ?_
  refine hs_c (Nat.le_of_ble_eq_true rfl) ?_
  refine hs_c (Nat.le_of_ble_eq_true rfl) ?_
  refine hs_c (Nat.le_of_ble_eq_true rfl) ?_
  refine hs_c (Nat.le_of_ble_eq_true rfl) ?_
  refine hs_c (Nat.le_of_ble_eq_true rfl) ?_
  refine hs_c (Nat.le_of_ble_eq_true rfl) ?_
  refine hs_c (Nat.le_of_ble_eq_true rfl) ?_
  refine hs_c (Nat.le_of_ble_eq_true rfl) ?_
  refine hs_c (Nat.le_of_ble_eq_true rfl) ?_
  exact hs_n
/-- the pure machine runs the law, and answers 1 -/
theorem z_pure (r : zE) (b L : Nat) (xs : Nat → Int32) (hE : zEnv r b L xs) (hL : L ≤ 3072) : ∃ g : zH, zev r 0 0 [some (.ref b), none, none, none] [] [] = some (some (.int 1), g) ∧ g.length ≤ 600000 ∧ zhs g ≤ 7302250 := by
  obtain ⟨h, e, st⟩ := i_law r b
  obtain ⟨g, e2, s2⟩ := w_loop hE hL 512 0 0 h st (by omega) (by omega) (by decide)
  refine ⟨g, e.trans e2, ?_⟩
  obtain ⟨C, c, c2, I, J, Q, N, A, U, V, X, S, t, rfl, -, t1, t2⟩ := s2
  constructor
  · rw [zmk_len]
    omega
  · have e0 : zmk r c c c2 I J Q N A U V X S t = zmk r c c c2 I J Q N A U V X S [] ++ t := zmk_app (t := []) (l := t)
    have e1 : zhs (zmk r c c c2 I J Q N A U V X S []) ≤ 4396 * 65 := zmk_hs ..
    rw [e0, zhs_app]
    omega
end LAW
