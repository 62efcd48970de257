/-! FRAMES: what a change leaves; ROWS AND TEXTS, both alike -/
section FRAME
variable {r : zE} {C : zCs} {c : Nat} {I : zA} {J : Nat → Int64} {Q : Nat → zA} {N : zBr} {U : zA} {V : Nat → Int64} {X : Nat → zA} {t : zH}
theorem zTo_c {I' U' : zA} {J' V' : Nat → Int64} {Q' X' : Nat → zA} (h : zTo I J Q U V X) (h0 : I' 0 = I 0) (h1 : I' 1 = I 1) (h2 : J' 0 = J 0) (h3 : J' 1 = J 1) (h4 : Q' 0 = Q 0) (k0 : U' 2 = U 2) (k1 : U' 3 = U 3) (k2 : V' 0 = V 0) (k3 : V' 1 = V 1) (k4 : X' 9 = X 9) : zTo I' J' Q' U' V' X' := by
  unfold zTo
  rw [h0, h1, h2, h3, h4, k0, k1, k2, k3, k4]
  exact h
theorem zMv_c {U' : zA} {X' : Nat → zA} (h : zMv C U X) (h0 : U' 0 = U 0) (h1 : U' 1 = U 1) (h2 : X' 1 = X 1) (h3 : X' 2 = X 2) (h4 : X' 3 = X 3) (h5 : X' 4 = X 4) : zMv C U' X' := by
  unfold zMv
  rw [h0, h1, h2, h3, h4, h5]
  exact h
theorem zNo_c {X' : Nat → zA} (h : zNo C N X) (h0 : X' 0 = X 0) : zNo C N X' := by
  unfold zNo
  rw [h0]
  exact h
theorem zLg_c {I' : zA} {Q' X' : Nat → zA} (h : zLg C I Q X) (h0 : I' 2 = I 2) (h1 : Q' 9 = Q 9) (h2 : X' 0 = X 0) : zLg C I' Q' X' := by
  unfold zLg
  rw [h0, h1, h2]
  exact h
theorem iv_tell (v : Int32) (i : zIv r C c I J Q N U V X t) : zIv r C c (va_up I 0 v) J Q N (va_up U 2 v) V X t := by
  obtain ⟨a1, a2, a3, a4, a5, a6, a7, a8, a9⟩ := i
  obtain ⟨b1, b2, b3, b4, b5⟩ := a4
  exact ⟨a1, a2, zMv_c a3 (va_ne (by decide)) (va_ne (by decide)) rfl rfl rfl rfl, ⟨by rw [va_same, va_same], by rw [va_ne (by decide), va_ne (by decide)]; exact b2, b3, b4, b5⟩, zRo_c a5 (fun j _ => va_ne (by omega)) (fun _ _ => rfl) rfl rfl, zTe_c a6 (fun j _ => va_ne (by omega)) (fun _ _ => rfl) rfl rfl, a7, zLg_c a8 (va_ne (by decide)) rfl rfl, zKe_c a9 (fun j _ => va_ne (by omega)) (fun _ _ => rfl) (fun _ _ => rfl)⟩
theorem iv_found (f : Nat) (i : zIv r C c I J Q N U V X t) (h1 : 1 ≤ f) (h6 : f < 6) : zIv r C c (va_up I 1 (nI f)) J (va_up Q 0 (upd (Q 0) f (Q 0 f + 1))) N (va_up U 3 (nI f)) V (va_up X 9 (upd (X 9) f (X 9 f + 1))) t := by
  obtain ⟨a1, a2, a3, a4, a5, a6, a7, a8, a9⟩ := i
  obtain ⟨b1, b2, b3, b4, b5⟩ := a4
  refine ⟨a1, a2, zMv_c a3 (va_ne (by decide)) (va_ne (by decide)) (va_ne (by decide)) (va_ne (by decide)) (va_ne (by decide)) (va_ne (by decide)), ⟨by rw [va_ne (by decide), va_ne (by decide)]; exact b1, by rw [va_same, va_same], b3, b4, ?_⟩, zRo_c a5 (fun j _ => va_ne (by omega)) (fun j _ => va_ne (by omega)) (va_ne (by decide)) (va_ne (by decide)), zTe_c a6 (fun j _ => va_ne (by omega)) (fun j _ => va_ne (by omega)) (va_ne (by decide)) (va_ne (by decide)), zNo_c a7 (va_ne (by decide)), zLg_c a8 (va_ne (by decide)) (va_ne (by decide)) (va_ne (by decide)), zKe_c a9 (fun j _ => va_ne (by omega)) (fun j _ => va_ne (by omega)) (fun _ _ => by rw [va_ne (by decide)])⟩
  intro g g1 g2
  rw [va_same, va_same]
  by_cases e : g = f
  · subst e
    rw [pk_us, pk_us, b5 g g1 g2]
  · rw [pk_un e, pk_un e, b5 g g1 g2]
theorem iv_row {j : Nat} {s s2 : Int32} {f f2 : zA} (i : zIv r C c I J Q N U V X t) (hj : j < 6) (e : zRr s f s2 (fun i => f2 (40 * j + i)) 40) (o : ∀ k i, k < 6 → k ≠ j → i < 40 → f2 (40 * k + i) = X 6 (40 * k + i)) : zIv r C c (va_up I (6 + j) s) J (va_up Q (13 + j) f) N U V (va_up (va_up X 5 (upd (X 5) j s2)) 6 f2) t := by
  obtain ⟨a1, a2, a3, a4, a5, a6, a7, a8, a9⟩ := i
  have w : ∀ k, k ≠ 5 → k ≠ 6 → va_up (va_up X 5 (upd (X 5) j s2)) 6 f2 k = X k := fun k h1 h2 => by rw [va_ne h2, va_ne h1]
  refine ⟨a1, a2, zMv_c a3 rfl rfl (w _ (by decide) (by decide)) (w _ (by decide) (by decide)) (w _ (by decide) (by decide)) (w _ (by decide) (by decide)), zTo_c a4 (va_ne (by omega)) (va_ne (by omega)) rfl rfl (va_ne (by omega)) rfl rfl rfl rfl (w _ (by decide) (by decide)), ?_, zTe_c a6 (fun k _ => va_ne (by omega)) (fun k _ => va_ne (by omega)) (w _ (by decide) (by decide)) (w _ (by decide) (by decide)), zNo_c a7 (w _ (by decide) (by decide)), zLg_c a8 (va_ne (by omega)) (va_ne (by omega)) (w _ (by decide) (by decide)), zKe_c a9 (fun k _ => va_ne (by omega)) (fun k _ => va_ne (by omega)) (fun _ _ => by rw [w _ (by decide) (by decide)])⟩
  intro k hk
  rw [va_same, show va_up (va_up X 5 (upd (X 5) j s2)) 6 f2 5 = upd (X 5) j s2 by rw [va_ne (by decide), va_same]]
  by_cases q : k = j
  · subst q
    rw [va_same, va_same, pk_us]
    exact e
  · rw [va_ne (by omega), va_ne (by omega), pk_un q]
    rcases a5 k hk with ⟨e1, e2⟩ | ⟨n, n1, e1, e2, e3⟩
    · exact .inl ⟨e1, e2⟩
    · exact .inr ⟨n, n1, e1, e2, fun i hi => (e3 i hi).trans (o k i hk q (by omega)).symm⟩
theorem iv_text {j : Nat} {s s2 : Int32} {f f2 : zA} (i : zIv r C c I J Q N U V X t) (hj : j < 4) (e : zRr s f s2 (fun i => f2 (60 * j + i)) 60) (o : ∀ k i, k < 4 → k ≠ j → i < 60 → f2 (60 * k + i) = X 8 (60 * k + i)) : zIv r C c (va_up I (12 + j) s) J (va_up Q (19 + j) f) N U V (va_up (va_up X 7 (upd (X 7) j s2)) 8 f2) t := by
  obtain ⟨a1, a2, a3, a4, a5, a6, a7, a8, a9⟩ := i
  have w : ∀ k, k ≠ 7 → k ≠ 8 → va_up (va_up X 7 (upd (X 7) j s2)) 8 f2 k = X k := fun k h1 h2 => by rw [va_ne h2, va_ne h1]
  refine ⟨a1, a2, zMv_c a3 rfl rfl (w _ (by decide) (by decide)) (w _ (by decide) (by decide)) (w _ (by decide) (by decide)) (w _ (by decide) (by decide)), zTo_c a4 (va_ne (by omega)) (va_ne (by omega)) rfl rfl (va_ne (by omega)) rfl rfl rfl rfl (w _ (by decide) (by decide)), zRo_c a5 (fun k _ => va_ne (by omega)) (fun k _ => va_ne (by omega)) (w _ (by decide) (by decide)) (w _ (by decide) (by decide)), ?_, zNo_c a7 (w _ (by decide) (by decide)), zLg_c a8 (va_ne (by omega)) (va_ne (by omega)) (w _ (by decide) (by decide)), zKe_c a9 (fun k _ => va_ne (by omega)) (fun k _ => va_ne (by omega)) (fun _ _ => by rw [w _ (by decide) (by decide)])⟩
  intro k hk
  rw [va_same, show va_up (va_up X 7 (upd (X 7) j s2)) 8 f2 7 = upd (X 7) j s2 by rw [va_ne (by decide), va_same]]
  by_cases q : k = j
  · subst q
    rw [va_same, va_same, pk_us]
    exact e
  · rw [va_ne (by omega), va_ne (by omega), pk_un q]
    rcases a6 k hk with ⟨e1, e2⟩ | ⟨n, n1, e1, e2, e3⟩
    · exact .inl ⟨e1, e2⟩
    · exact .inr ⟨n, n1, e1, e2, fun i hi => (e3 i hi).trans (o k i hk q (by omega)).symm⟩
end FRAME
section PAIRS
variable {r : zE} {c0 c1 c2 : Nat} {I : Nat → Int32} {J : Nat → Int64} {Q : Nat → Nat → Int32} {N A : zBr} {U : Nat → Int32} {V : Nat → Int64} {X : Nat → Nat → Int32} {S : zSs} {t : zH} {C : zCs} {c n : Nat}
theorem k_f1 : zev r i_X5_found 0 [some (.ref (r.1 + 0)), some (.int 1)] [] (zmk r c0 c1 c2 I J Q N A U V X S t) = some (some (.int (-3)), (zmk r c0 c1 c2 (va_up I 1 (nI 1)) J (va_up Q 0 (upd (Q 0) 1 (Q 0 1 + 1))) N A U V X S t)) := k_found (f := 1) (by decide) (by decide)
theorem m_f1 : zev r i_X6_find 0 [some (.ref (r.1 + 49)), some (.int 1)] [] (zmk r c0 c1 c2 I J Q N A U V X S t) = some (some (.int (-3)), (zmk r c0 c1 c2 I J Q N A (va_up U 3 (nI 1)) V (va_up X 9 (upd (X 9) 1 (X 9 1 + 1))) S t)) := m_find (f := 1) (by decide) (by decide)
theorem k_f2 : zev r i_X5_found 0 [some (.ref (r.1 + 0)), some (.int 2)] [] (zmk r c0 c1 c2 I J Q N A U V X S t) = some (some (.int (-3)), (zmk r c0 c1 c2 (va_up I 1 (nI 2)) J (va_up Q 0 (upd (Q 0) 2 (Q 0 2 + 1))) N A U V X S t)) := k_found (f := 2) (by decide) (by decide)
theorem m_f2 : zev r i_X6_find 0 [some (.ref (r.1 + 49)), some (.int 2)] [] (zmk r c0 c1 c2 I J Q N A U V X S t) = some (some (.int (-3)), (zmk r c0 c1 c2 I J Q N A (va_up U 3 (nI 2)) V (va_up X 9 (upd (X 9) 2 (X 9 2 + 1))) S t)) := m_find (f := 2) (by decide) (by decide)
theorem k_f3 : zev r i_X5_found 0 [some (.ref (r.1 + 0)), some (.int 3)] [] (zmk r c0 c1 c2 I J Q N A U V X S t) = some (some (.int (-3)), (zmk r c0 c1 c2 (va_up I 1 (nI 3)) J (va_up Q 0 (upd (Q 0) 3 (Q 0 3 + 1))) N A U V X S t)) := k_found (f := 3) (by decide) (by decide)
theorem m_f3 : zev r i_X6_find 0 [some (.ref (r.1 + 49)), some (.int 3)] [] (zmk r c0 c1 c2 I J Q N A U V X S t) = some (some (.int (-3)), (zmk r c0 c1 c2 I J Q N A (va_up U 3 (nI 3)) V (va_up X 9 (upd (X 9) 3 (X 9 3 + 1))) S t)) := m_find (f := 3) (by decide) (by decide)
theorem k_f4 : zev r i_X5_found 0 [some (.ref (r.1 + 0)), some (.int 4)] [] (zmk r c0 c1 c2 I J Q N A U V X S t) = some (some (.int (-3)), (zmk r c0 c1 c2 (va_up I 1 (nI 4)) J (va_up Q 0 (upd (Q 0) 4 (Q 0 4 + 1))) N A U V X S t)) := k_found (f := 4) (by decide) (by decide)
theorem m_f4 : zev r i_X6_find 0 [some (.ref (r.1 + 49)), some (.int 4)] [] (zmk r c0 c1 c2 I J Q N A U V X S t) = some (some (.int (-3)), (zmk r c0 c1 c2 I J Q N A (va_up U 3 (nI 4)) V (va_up X 9 (upd (X 9) 4 (X 9 4 + 1))) S t)) := m_find (f := 4) (by decide) (by decide)
theorem k_f5 : zev r i_X5_found 0 [some (.ref (r.1 + 0)), some (.int 5)] [] (zmk r c0 c1 c2 I J Q N A U V X S t) = some (some (.int (-3)), (zmk r c0 c1 c2 (va_up I 1 (nI 5)) J (va_up Q 0 (upd (Q 0) 5 (Q 0 5 + 1))) N A U V X S t)) := k_found (f := 5) (by decide) (by decide)
theorem m_f5 : zev r i_X6_find 0 [some (.ref (r.1 + 49)), some (.int 5)] [] (zmk r c0 c1 c2 I J Q N A U V X S t) = some (some (.int (-3)), (zmk r c0 c1 c2 I J Q N A (va_up U 3 (nI 5)) V (va_up X 9 (upd (X 9) 5 (X 9 5 + 1))) S t)) := m_find (f := 5) (by decide) (by decide)
/-- a stretch of the reference's rows, filled -/
def zFl (f : zA) (b n : Nat) (v : Int32) : zA := fun i => if b ≤ i ∧ i < b + n then v else f i
theorem zfl_eq (f : zA) (b n : Nat) (v : Int32) : zfd (fun (g : zA) i => upd g (b + i) v) 0 n f = zFl f b n v := by
  funext i
  have := zfd_inv (f := fun (g : zA) i => upd g (b + i) v) (fun k g => g i = zFl f b k v i) (j := 0) (n := n) (s := f) (by
    unfold zFl
    rw [if_neg (by omega)]) (fun s k _ _ h => by
      show upd s (b + k) v i = _
      unfold upd zFl
      by_cases e : i = b + k
      · rw [if_pos e, if_pos (by omega)]
      · rw [if_neg e, h]
        unfold zFl
        by_cases e2 : b ≤ i ∧ i < b + k
        · rw [if_pos e2, if_pos (by omega)]
        · rw [if_neg e2, if_neg (by omega)])
  rw [this, Nat.zero_add]
theorem m_make9 {j : Nat} (hj : j < 6) (k : Int32) : zev r i_X6_makeRow 9 [some (.ref (r.1 + 49)), some (.int (nI j)), some (.int k), some (.int 0)] [] (zmk r c0 c1 c2 I J Q N A U V X S t) = some (none, zmk r c0 c1 c2 I J Q N A U V (va_up X 6 (zFl (X 6) (40 * j) 40 0)) S t) := by
  have := zloop (fun i (f : zA) => zev r i_X6_makeRow 9 [some (.ref (r.1 + 49)), some (.int (nI j)), some (.int k), some (.int (nI i))] [] (zmk r c0 c1 c2 I J Q N A U V (va_up X 6 f) S t)) (fun f => some (none, zmk r c0 c1 c2 I J Q N A U V (va_up X 6 f) S t)) (fun f i => upd f (40 * j + i) 0) 40 (fun i a hi => by
    refine (E_X6_makeRow_9 ..).trans ?_
    have e : (40 : Int32) * nI j + nI i = nI (40 * j + i) := by rw [show (40 : Int32) = nI 40 from rfl, pk_mul, nI_add]
    simp only [if_pos (show nI i < 40 from nI_lt (b := 40) hi (by decide)), mo_49, mg_49_0, mg_49_1, mg_49_2, mg_49_3, mg_49_4, mg_49_5, mg_49_6, mg_49_7, mg_49_8, mg_49_9, mg_49_10, mg_49_11, mg_49_12, mg_49_13, mg_49_14, mg_49_15, mg_49_16, mg_49_17, mg_49_18, mg_49_19, mg_49_20, mg_49_21, mg_49_22, mg_49_23, mg_49_24, mg_49_25, Option.bind_some, e, mw_56 (show 40 * j + i < 240 by omega), va_same, bx_uu, nI_1]) (fun a => by
    refine (E_X6_makeRow_9 ..).trans ?_
    simp only [if_neg (show ¬ nI 40 < 40 by decide)]) (X 6)
  rw [zfl_eq, va_self] at this
  exact this
theorem m_make {j : Nat} (hj : j < 6) (k : Int32) : zev r i_X6_makeRow 0 [some (.ref (r.1 + 49)), some (.int (nI j)), some (.int k), none] [] (zmk r c0 c1 c2 I J Q N A U V X S t) = some (none, zmk r c0 c1 c2 I J Q N A U V (va_up (va_up X 5 (upd (X 5) j k)) 6 (zFl (X 6) (40 * j) 40 0)) S t) := by
  simp only [E_X6_makeRow_0, mo_49, mg_49_0, mg_49_1, mg_49_2, mg_49_3, mg_49_4, mg_49_5, mg_49_6, mg_49_7, mg_49_8, mg_49_9, mg_49_10, mg_49_11, mg_49_12, mg_49_13, mg_49_14, mg_49_15, mg_49_16, mg_49_17, mg_49_18, mg_49_19, mg_49_20, mg_49_21, mg_49_22, mg_49_23, mg_49_24, mg_49_25, mw_55 hj, Option.bind_some, m_make9 hj, va_ne (show (6 : Nat) ≠ 5 by decide)]
theorem both {n' : Nat} {e1 e2 : zH → Option zRes} {h h1 h2 : zH} {v : Int32} (p1 : e1 h = some (some (.int v), h1)) (p2 : e2 h1 = some (some (.int v), h2)) (s : zSt r n' h2) (o : zob r h1 (r.1 + 49) 6 = true := by exact mo_49) : zBoth r n n' e1 e2 h := ⟨v, h1, h2, p1, o, p2, s⟩
theorem bothL {n' : Nat} {e1 e2 : zH → Option zRes} {h h1 h2 : zH} {v : Int64} (p1 : e1 h = some (some (.long v), h1)) (p2 : e2 h1 = some (some (.long v), h2)) (s : zSt r n' h2) (o : zob r h1 (r.1 + 49) 6 = true := by exact mo_49) : zBothL r n n' e1 e2 h := ⟨v, h1, h2, p1, o, p2, s⟩
theorem st_mk (iv : zIv r C c I J Q N U V X t) (t1 : t.length ≤ 7 * n) (t2 : zhs t ≤ 60 * n) : zSt r n (zmk r c c c2 I J Q N A U V X S t) := ⟨C, c, c2, I, J, Q, N, A, U, V, X, S, t, rfl, iv, t1, t2⟩
theorem lk_row (a b : Int32) {h : zH} (st : zSt r n h) : zBoth r n n (zev r i_X5_row 0 [some (.ref (r.1 + 0)), some (.int a), some (.int b)] []) (zev r i_X6_row 0 [some (.ref (r.1 + 49)), some (.int a), some (.int b)] []) h := by
  obtain ⟨C, c, c2, I, J, Q, N, A, U, V, X, S, t, rfl, iv, t1, t2⟩ := st
  rcases zhk_cases 6 (by decide) a with e | ⟨e, j, hj, rfl⟩
  · refine both (v := (-1)) (h1 := (zmk r c c c2 I J Q N A U V X S t)) (h2 := (zmk r c c c2 I J Q N A U V X S t)) ?_ ?_ (st_mk iv t1 t2)
    · simp only [E_X5_row_0, mo_0, mg_0_0, mg_0_1, mg_0_2, mg_0_3, mg_0_4, mg_0_5, mg_0_6, mg_0_7, mg_0_8, mg_0_9, mg_0_10, mg_0_11, if_true, k_rowAt, e, zcQ_null, E_X5_renewed_0_n, zcI_some]
    · simp only [E_X6_row_0, m_row, e, if_true, zcI_some]
  · by_cases b1 : (40 : Int32) < b
    · refine both (v := (-1)) (h1 := (zmk r c c c2 I J Q N A U V X S t)) (h2 := (zmk r c c c2 I J Q N A U V X S t)) ?_ ?_ (st_mk iv t1 t2)
      · simp only [E_X5_row_0, mo_0, mg_0_0, mg_0_1, mg_0_2, mg_0_3, mg_0_4, mg_0_5, mg_0_6, mg_0_7, mg_0_8, mg_0_9, mg_0_10, mg_0_11, if_true, k_rowAt, e, i01, if_false, zcQ_ref, nI_clamp (show j < 2 ^ 31 by omega), E_X5_renewed_0, if_pos b1, zcI_some]
      · simp only [E_X6_row_0, m_row, e, i01, if_false, if_pos b1, zcI_some]
    · by_cases b2 : b < 0
      · refine both (v := (-3)) (h1 := (zmk r c c c2 (va_up I 1 (nI 5)) J (va_up Q 0 (upd (Q 0) 5 (Q 0 5 + 1))) N A U V X S t)) (h2 := (zmk r c c c2 (va_up I 1 (nI 5)) J (va_up Q 0 (upd (Q 0) 5 (Q 0 5 + 1))) N A (va_up U 3 (nI 5)) V (va_up X 9 (upd (X 9) 5 (X 9 5 + 1))) S t)) ?_ ?_ (st_mk (iv_found 5 iv (by decide) (by decide)) t1 t2)
        · simp only [E_X5_row_0, mo_0, mg_0_0, mg_0_1, mg_0_2, mg_0_3, mg_0_4, mg_0_5, mg_0_6, mg_0_7, mg_0_8, mg_0_9, mg_0_10, mg_0_11, if_true, k_rowAt, e, i01, if_false, zcQ_ref, nI_clamp (show j < 2 ^ 31 by omega), E_X5_renewed_0, if_neg b1, if_pos b2, zcI_some, k_f5]
        · simp only [E_X6_row_0, mo_49, mg_49_0, mg_49_1, mg_49_2, mg_49_3, mg_49_4, mg_49_5, mg_49_6, mg_49_7, mg_49_8, mg_49_9, mg_49_10, mg_49_11, mg_49_12, mg_49_13, mg_49_14, mg_49_15, mg_49_16, mg_49_17, mg_49_18, mg_49_19, mg_49_20, mg_49_21, mg_49_22, mg_49_23, mg_49_24, mg_49_25, m_row, e, i01, if_false, if_true, if_neg b1, if_pos b2, zcI_some, m_f5]
      · obtain ⟨k, hk, rfl⟩ := nI_of b2
        have h40 : k ≤ 40 := by
          refine Nat.le_of_not_lt fun q => b1 (nI_lt (a := 40) q hk)
        refine both (v := (nI k)) (h1 := (zmk r c c c2 (va_up I (6 + j) (nI k)) J (va_up Q (13 + j) (fun i => if i < 60 then 0 else Q (13 + j) i)) N A U V X S t)) (h2 := (zmk r c c c2 (va_up I (6 + j) (nI k)) J (va_up Q (13 + j) (fun i => if i < 60 then 0 else Q (13 + j) i)) N A U V (va_up (va_up X 5 (upd (X 5) j (nI k))) 6 (zFl (X 6) (40 * j) 40 0)) S t)) ?_ ?_ (st_mk (iv_row iv hj (.inr ⟨k, h40, rfl, rfl, fun i hi => ?_⟩) fun q i hq hn hi => ?_) t1 t2)
        · simp only [E_X5_row_0, mo_0, mg_0_0, mg_0_1, mg_0_2, mg_0_3, mg_0_4, mg_0_5, mg_0_6, mg_0_7, mg_0_8, mg_0_9, mg_0_10, mg_0_11, if_true, k_rowAt, e, i01, if_false, zcQ_ref, nI_clamp (show j < 2 ^ 31 by omega), E_X5_renewed_0, if_neg b1, if_neg b2, zcI_some, mo_r hj, wr_renew hj (show k ≤ 60 by omega), zcV_some]
        · simp only [E_X6_row_0, mo_49, mg_49_0, mg_49_1, mg_49_2, mg_49_3, mg_49_4, mg_49_5, mg_49_6, mg_49_7, mg_49_8, mg_49_9, mg_49_10, mg_49_11, mg_49_12, mg_49_13, mg_49_14, mg_49_15, mg_49_16, mg_49_17, mg_49_18, mg_49_19, mg_49_20, mg_49_21, mg_49_22, mg_49_23, mg_49_24, mg_49_25, m_row, e, i01, if_false, if_true, if_neg b1, if_neg b2, zcI_some, m_make hj, zcV_some]
        · show (if i < 60 then (0 : Int32) else _) = zFl (X 6) (40 * j) 40 0 (40 * j + i)
          unfold zFl
          rw [if_pos (by omega), if_pos (by omega)]
        · unfold zFl
          rw [if_neg (by omega)]
theorem m_ref1 {j : Nat} (hj : j < 6) (e : X 5 j = -1) (i : Int32) : zev r i_X6_refused 0 [some (.ref (r.1 + 49)), some (.int (nI j)), some (.int i)] [] (zmk r c0 c1 c2 I J Q N A U V X S t) = some (some (.int (-3)), (zmk r c0 c1 c2 I J Q N A (va_up U 3 (nI 1)) V (va_up X 9 (upd (X 9) 1 (X 9 1 + 1))) S t)) := by
  simp only [E_X6_refused_0, m_row, zcI_some, zhk_in hj (show 6 < 2 ^ 31 by decide), i01, if_false, mo_49, mg_49_0, mg_49_1, mg_49_2, mg_49_3, mg_49_4, mg_49_5, mg_49_6, mg_49_7, mg_49_8, mg_49_9, mg_49_10, mg_49_11, mg_49_12, mg_49_13, mg_49_14, mg_49_15, mg_49_16, mg_49_17, mg_49_18, mg_49_19, mg_49_20, mg_49_21, mg_49_22, mg_49_23, mg_49_24, mg_49_25, Option.bind_some, ma_55 hj, e, show (-1 : Int32) < 0 from by decide, if_true, m_f1]
theorem m_ref2 {j m : Nat} (hj : j < 6) (hm : m < 2 ^ 31) (e : X 5 j = nI m) {i : Int32} (hi : zhk m i = 0) : zev r i_X6_refused 0 [some (.ref (r.1 + 49)), some (.int (nI j)), some (.int i)] [] (zmk r c0 c1 c2 I J Q N A U V X S t) = some (some (.int (-3)), (zmk r c0 c1 c2 I J Q N A (va_up U 3 (nI 2)) V (va_up X 9 (upd (X 9) 2 (X 9 2 + 1))) S t)) := by
  simp only [E_X6_refused_0, m_row, zcI_some, zhk_in hj (show 6 < 2 ^ 31 by decide), i01, if_false, mo_49, mg_49_0, mg_49_1, mg_49_2, mg_49_3, mg_49_4, mg_49_5, mg_49_6, mg_49_7, mg_49_8, mg_49_9, mg_49_10, mg_49_11, mg_49_12, mg_49_13, mg_49_14, mg_49_15, mg_49_16, mg_49_17, mg_49_18, mg_49_19, mg_49_20, mg_49_21, mg_49_22, mg_49_23, mg_49_24, mg_49_25, Option.bind_some, ma_55 hj, e, nI_pos hm, if_true, m_in r _ i 0 _ (show (0 : Int64) = (0 : Int32).toInt64 from rfl) rfl, zbw_hk hm, hi, m_f2]
theorem m_ref0 {j m : Nat} (hj : j < 6) (hm : m < 2 ^ 31) (e : X 5 j = nI m) {i : Int32} (hi : zhk m i = 1) : zev r i_X6_refused 0 [some (.ref (r.1 + 49)), some (.int (nI j)), some (.int i)] [] (zmk r c0 c1 c2 I J Q N A U V X S t) = some (some (.int 0), zmk r c0 c1 c2 I J Q N A U V X S t) := by
  simp only [E_X6_refused_0, m_row, zcI_some, zhk_in hj (show 6 < 2 ^ 31 by decide), i01, if_false, mo_49, mg_49_0, mg_49_1, mg_49_2, mg_49_3, mg_49_4, mg_49_5, mg_49_6, mg_49_7, mg_49_8, mg_49_9, mg_49_10, mg_49_11, mg_49_12, mg_49_13, mg_49_14, mg_49_15, mg_49_16, mg_49_17, mg_49_18, mg_49_19, mg_49_20, mg_49_21, mg_49_22, mg_49_23, mg_49_24, mg_49_25, Option.bind_some, ma_55 hj, e, nI_pos hm, if_true, m_in r _ i 0 _ (show (0 : Int64) = (0 : Int32).toInt64 from rfl) rfl, zbw_hk hm, hi]
theorem m_refb {a : Int32} (e : zhk 6 a = 0) (i : Int32) : zev r i_X6_refused 0 [some (.ref (r.1 + 49)), some (.int a), some (.int i)] [] (zmk r c0 c1 c2 I J Q N A U V X S t) = some (some (.int (-1)), zmk r c0 c1 c2 I J Q N A U V X S t) := by
  simp only [E_X6_refused_0, m_row, zcI_some, e, if_true]
theorem nI_m1 {m : Nat} (h : m < 2 ^ 31) : ¬ nI m = -1 := fun e => nI_pos h (by rw [e]; decide)
theorem lk_lay (a b v : Int32) {h : zH} (st : zSt r n h) : zBoth r n n (zev r i_X5_lay 0 [some (.ref (r.1 + 0)), some (.int a), some (.int b), some (.int v), none] []) (zev r i_X6_lay 0 [some (.ref (r.1 + 49)), some (.int a), some (.int b), some (.int v), none, none] []) h := by
  obtain ⟨C, c, c2, I, J, Q, N, A, U, V, X, S, t, rfl, iv, t1, t2⟩ := st
  rcases zhk_cases 6 (by decide) a with e | ⟨e, j, hj, rfl⟩
  · refine both (v := (-1)) (h1 := (zmk r c c c2 I J Q N A U V X S t)) (h2 := (zmk r c c c2 I J Q N A U V X S t)) ?_ ?_ (st_mk iv t1 t2)
    · simp only [E_X5_lay_0, mo_0, mg_0_0, mg_0_1, mg_0_2, mg_0_3, mg_0_4, mg_0_5, mg_0_6, mg_0_7, mg_0_8, mg_0_9, mg_0_10, mg_0_11, if_true, k_rowAt, e, zcQ_null]
    · simp only [E_X6_lay_0, mo_49, mg_49_0, mg_49_1, mg_49_2, mg_49_3, mg_49_4, mg_49_5, mg_49_6, mg_49_7, mg_49_8, mg_49_9, mg_49_10, mg_49_11, mg_49_12, mg_49_13, mg_49_14, mg_49_15, mg_49_16, mg_49_17, mg_49_18, mg_49_19, mg_49_20, mg_49_21, mg_49_22, mg_49_23, mg_49_24, mg_49_25, if_true, m_refb e, zcI_some, show ¬ (-1 : Int32) = 0 by decide, if_false]
  · rcases iv.2.2.2.2.1 j hj with ⟨s1, s2⟩ | ⟨m, hm, s1, s2, s3⟩
    · refine both (v := (-3)) (h1 := (zmk r c c c2 (va_up I 1 (nI 1)) J (va_up Q 0 (upd (Q 0) 1 (Q 0 1 + 1))) N A U V X S t)) (h2 := (zmk r c c c2 (va_up I 1 (nI 1)) J (va_up Q 0 (upd (Q 0) 1 (Q 0 1 + 1))) N A (va_up U 3 (nI 1)) V (va_up X 9 (upd (X 9) 1 (X 9 1 + 1))) S t)) ?_ ?_ (st_mk (iv_found 1 iv (by decide) (by decide)) t1 t2)
      · simp only [E_X5_lay_0, mo_0, mg_0_0, mg_0_1, mg_0_2, mg_0_3, mg_0_4, mg_0_5, mg_0_6, mg_0_7, mg_0_8, mg_0_9, mg_0_10, mg_0_11, if_true, k_rowAt, e, i01, if_false, zcQ_ref, nI_clamp (show j < 2 ^ 31 by omega), mo_r hj, wr_miss hj, s1, zcI_some, k_f1]
      · simp only [E_X6_lay_0, mo_49, mg_49_0, mg_49_1, mg_49_2, mg_49_3, mg_49_4, mg_49_5, mg_49_6, mg_49_7, mg_49_8, mg_49_9, mg_49_10, mg_49_11, mg_49_12, mg_49_13, mg_49_14, mg_49_15, mg_49_16, mg_49_17, mg_49_18, mg_49_19, mg_49_20, mg_49_21, mg_49_22, mg_49_23, mg_49_24, mg_49_25, if_true, m_ref1 hj s2, zcI_some, show ¬ (-3 : Int32) = 0 by decide, if_false]
    · rcases zhk_cases m (by omega) b with e2 | ⟨e2, k, hk, rfl⟩
      · refine both (v := (-3)) (h1 := (zmk r c c c2 (va_up I 1 (nI 2)) J (va_up Q 0 (upd (Q 0) 2 (Q 0 2 + 1))) N A U V X S t)) (h2 := (zmk r c c c2 (va_up I 1 (nI 2)) J (va_up Q 0 (upd (Q 0) 2 (Q 0 2 + 1))) N A (va_up U 3 (nI 2)) V (va_up X 9 (upd (X 9) 2 (X 9 2 + 1))) S t)) ?_ ?_ (st_mk (iv_found 2 iv (by decide) (by decide)) t1 t2)
        · simp only [E_X5_lay_0, mo_0, mg_0_0, mg_0_1, mg_0_2, mg_0_3, mg_0_4, mg_0_5, mg_0_6, mg_0_7, mg_0_8, mg_0_9, mg_0_10, mg_0_11, if_true, k_rowAt, e, i01, if_false, zcQ_ref, nI_clamp (show j < 2 ^ 31 by omega), mo_r hj, wr_miss hj, s1, nI_m1 (show m < 2 ^ 31 by omega), zcI_some, wr_has hj s1, e2, k_f2]
        · simp only [E_X6_lay_0, mo_49, mg_49_0, mg_49_1, mg_49_2, mg_49_3, mg_49_4, mg_49_5, mg_49_6, mg_49_7, mg_49_8, mg_49_9, mg_49_10, mg_49_11, mg_49_12, mg_49_13, mg_49_14, mg_49_15, mg_49_16, mg_49_17, mg_49_18, mg_49_19, mg_49_20, mg_49_21, mg_49_22, mg_49_23, mg_49_24, mg_49_25, if_true, m_ref2 hj (show m < 2 ^ 31 by omega) s2 e2, zcI_some, show ¬ (-3 : Int32) = 0 by decide, if_false]
      · have e40 : (40 : Int32) * nI j + nI k = nI (40 * j + k) := by rw [show (40 : Int32) = nI 40 from rfl, pk_mul, nI_add]
        have ek : X 6 (40 * j + k) = Q (13 + j) k := (s3 k hk).symm
        have iv2 := iv_tell (Q (13 + j) k) (iv_row iv hj (s := I (6 + j)) (s2 := X 5 j) (f := upd (Q (13 + j)) k v) (f2 := upd (X 6) (40 * j + k) v) (.inr ⟨m, hm, s1, s2, fun i hi => by
          show upd (Q (13 + j)) k v i = upd (X 6) (40 * j + k) v (40 * j + i)
          by_cases q : i = k
          · subst q; rw [pk_us, pk_us]
          · rw [pk_un q, pk_un (by omega)]; exact s3 i hi⟩) fun q i hq hn hi => pk_un (by omega))
        rw [va_self, show upd (X 5) j (X 5 j) = X 5 from by
          funext i
          by_cases q : i = j
          · subst q; rw [pk_us]
          · rw [pk_un q], va_self] at iv2
        refine both (v := 1) (h1 := (zmk r c c c2 (va_up I 0 (Q (13 + j) k)) J (va_up Q (13 + j) (upd (Q (13 + j)) k v)) N A U V X S t)) (h2 := (zmk r c c c2 (va_up I 0 (Q (13 + j) k)) J (va_up Q (13 + j) (upd (Q (13 + j)) k v)) N A (va_up U 2 (Q (13 + j) k)) V (va_up X 6 (upd (X 6) (40 * j + k) v)) S t)) ?_ ?_ (st_mk iv2 t1 t2)
        · simp only [E_X5_lay_0, mo_0, mg_0_0, mg_0_1, mg_0_2, mg_0_3, mg_0_4, mg_0_5, mg_0_6, mg_0_7, mg_0_8, mg_0_9, mg_0_10, mg_0_11, if_true, k_rowAt, e, i01, if_false, zcQ_ref, nI_clamp (show j < 2 ^ 31 by omega), mo_r hj, wr_miss hj, s1, nI_m1 (show m < 2 ^ 31 by omega), zcI_some, wr_has hj s1, e2, wr_get hj s1 (show m ≤ 60 by omega), nI_clamp (show k < 2 ^ 31 by omega), k_tell, zcV_some]
          rw [wr_set hj (show va_up I 0 (Q (13 + j) k) (6 + j) = nI m by rw [va_ne (by omega), s1]) (by omega) hk]
          rfl
        · simp only [E_X6_lay_0, mo_49, mg_49_0, mg_49_1, mg_49_2, mg_49_3, mg_49_4, mg_49_5, mg_49_6, mg_49_7, mg_49_8, mg_49_9, mg_49_10, mg_49_11, mg_49_12, mg_49_13, mg_49_14, mg_49_15, mg_49_16, mg_49_17, mg_49_18, mg_49_19, mg_49_20, mg_49_21, mg_49_22, mg_49_23, mg_49_24, mg_49_25, if_true, m_ref0 hj (show m < 2 ^ 31 by omega) s2 e2, zcI_some, e40, ma_56 (show 40 * j + k < 240 by omega), mw_56 (show 40 * j + k < 240 by omega), Option.bind_some, m_tell, ek]
theorem lk_at (a b : Int32) {h : zH} (st : zSt r n h) : zBoth r n n (zev r i_X5_at 0 [some (.ref (r.1 + 0)), some (.int a), some (.int b), none] []) (zev r i_X6_at 0 [some (.ref (r.1 + 49)), some (.int a), some (.int b), none] []) h := by
  obtain ⟨C, c, c2, I, J, Q, N, A, U, V, X, S, t, rfl, iv, t1, t2⟩ := st
  rcases zhk_cases 6 (by decide) a with e | ⟨e, j, hj, rfl⟩
  · refine both (v := (-1)) (h1 := (zmk r c c c2 I J Q N A U V X S t)) (h2 := (zmk r c c c2 I J Q N A U V X S t)) ?_ ?_ (st_mk iv t1 t2)
    · simp only [E_X5_at_0, mo_0, mg_0_0, mg_0_1, mg_0_2, mg_0_3, mg_0_4, mg_0_5, mg_0_6, mg_0_7, mg_0_8, mg_0_9, mg_0_10, mg_0_11, if_true, k_rowAt, e, zcQ_null]
    · simp only [E_X6_at_0, mo_49, mg_49_0, mg_49_1, mg_49_2, mg_49_3, mg_49_4, mg_49_5, mg_49_6, mg_49_7, mg_49_8, mg_49_9, mg_49_10, mg_49_11, mg_49_12, mg_49_13, mg_49_14, mg_49_15, mg_49_16, mg_49_17, mg_49_18, mg_49_19, mg_49_20, mg_49_21, mg_49_22, mg_49_23, mg_49_24, mg_49_25, if_true, m_refb e, zcI_some, show ¬ (-1 : Int32) = 0 by decide, if_false]
  · rcases iv.2.2.2.2.1 j hj with ⟨s1, s2⟩ | ⟨m, hm, s1, s2, s3⟩
    · refine both (v := (-3)) (h1 := (zmk r c c c2 (va_up I 1 (nI 1)) J (va_up Q 0 (upd (Q 0) 1 (Q 0 1 + 1))) N A U V X S t)) (h2 := (zmk r c c c2 (va_up I 1 (nI 1)) J (va_up Q 0 (upd (Q 0) 1 (Q 0 1 + 1))) N A (va_up U 3 (nI 1)) V (va_up X 9 (upd (X 9) 1 (X 9 1 + 1))) S t)) ?_ ?_ (st_mk (iv_found 1 iv (by decide) (by decide)) t1 t2)
      · simp only [E_X5_at_0, mo_0, mg_0_0, mg_0_1, mg_0_2, mg_0_3, mg_0_4, mg_0_5, mg_0_6, mg_0_7, mg_0_8, mg_0_9, mg_0_10, mg_0_11, if_true, k_rowAt, e, i01, if_false, zcQ_ref, nI_clamp (show j < 2 ^ 31 by omega), mo_r hj, wr_miss hj, s1, zcI_some, k_f1]
      · simp only [E_X6_at_0, mo_49, mg_49_0, mg_49_1, mg_49_2, mg_49_3, mg_49_4, mg_49_5, mg_49_6, mg_49_7, mg_49_8, mg_49_9, mg_49_10, mg_49_11, mg_49_12, mg_49_13, mg_49_14, mg_49_15, mg_49_16, mg_49_17, mg_49_18, mg_49_19, mg_49_20, mg_49_21, mg_49_22, mg_49_23, mg_49_24, mg_49_25, if_true, m_ref1 hj s2, zcI_some, show ¬ (-3 : Int32) = 0 by decide, if_false]
    · rcases zhk_cases m (by omega) b with e2 | ⟨e2, k, hk, rfl⟩
      · refine both (v := (-3)) (h1 := (zmk r c c c2 (va_up I 1 (nI 2)) J (va_up Q 0 (upd (Q 0) 2 (Q 0 2 + 1))) N A U V X S t)) (h2 := (zmk r c c c2 (va_up I 1 (nI 2)) J (va_up Q 0 (upd (Q 0) 2 (Q 0 2 + 1))) N A (va_up U 3 (nI 2)) V (va_up X 9 (upd (X 9) 2 (X 9 2 + 1))) S t)) ?_ ?_ (st_mk (iv_found 2 iv (by decide) (by decide)) t1 t2)
        · simp only [E_X5_at_0, mo_0, mg_0_0, mg_0_1, mg_0_2, mg_0_3, mg_0_4, mg_0_5, mg_0_6, mg_0_7, mg_0_8, mg_0_9, mg_0_10, mg_0_11, if_true, k_rowAt, e, i01, if_false, zcQ_ref, nI_clamp (show j < 2 ^ 31 by omega), mo_r hj, wr_miss hj, s1, nI_m1 (show m < 2 ^ 31 by omega), zcI_some, wr_has hj s1, e2, k_f2]
        · simp only [E_X6_at_0, mo_49, mg_49_0, mg_49_1, mg_49_2, mg_49_3, mg_49_4, mg_49_5, mg_49_6, mg_49_7, mg_49_8, mg_49_9, mg_49_10, mg_49_11, mg_49_12, mg_49_13, mg_49_14, mg_49_15, mg_49_16, mg_49_17, mg_49_18, mg_49_19, mg_49_20, mg_49_21, mg_49_22, mg_49_23, mg_49_24, mg_49_25, if_true, m_ref2 hj (show m < 2 ^ 31 by omega) s2 e2, zcI_some, show ¬ (-3 : Int32) = 0 by decide, if_false]
      · have e40 : (40 : Int32) * nI j + nI k = nI (40 * j + k) := by rw [show (40 : Int32) = nI 40 from rfl, pk_mul, nI_add]
        have ek : X 6 (40 * j + k) = Q (13 + j) k := (s3 k hk).symm
        refine both (v := 1) (h1 := (zmk r c c c2 (va_up I 0 (Q (13 + j) k)) J Q N A U V X S t)) (h2 := (zmk r c c c2 (va_up I 0 (Q (13 + j) k)) J Q N A (va_up U 2 (Q (13 + j) k)) V X S t)) ?_ ?_ (st_mk (iv_tell _ iv) t1 t2)
        · simp only [E_X5_at_0, mo_0, mg_0_0, mg_0_1, mg_0_2, mg_0_3, mg_0_4, mg_0_5, mg_0_6, mg_0_7, mg_0_8, mg_0_9, mg_0_10, mg_0_11, if_true, k_rowAt, e, i01, if_false, zcQ_ref, nI_clamp (show j < 2 ^ 31 by omega), mo_r hj, wr_miss hj, s1, nI_m1 (show m < 2 ^ 31 by omega), zcI_some, wr_has hj s1, e2, wr_get hj s1 (show m ≤ 60 by omega), nI_clamp (show k < 2 ^ 31 by omega), k_tell, zcV_some]
        · simp only [E_X6_at_0, mo_49, mg_49_0, mg_49_1, mg_49_2, mg_49_3, mg_49_4, mg_49_5, mg_49_6, mg_49_7, mg_49_8, mg_49_9, mg_49_10, mg_49_11, mg_49_12, mg_49_13, mg_49_14, mg_49_15, mg_49_16, mg_49_17, mg_49_18, mg_49_19, mg_49_20, mg_49_21, mg_49_22, mg_49_23, mg_49_24, mg_49_25, if_true, m_ref0 hj (show m < 2 ^ 31 by omega) s2 e2, zcI_some, e40, ma_56 (show 40 * j + k < 240 by omega), Option.bind_some, m_tell, ek]
theorem lk_tear (a : Int32) {h : zH} (st : zSt r n h) : zBoth r n n (zev r i_X5_tear 0 [some (.ref (r.1 + 0)), some (.int a), none] []) (zev r i_X6_tear 0 [some (.ref (r.1 + 49)), some (.int a)] []) h := by
  obtain ⟨C, c, c2, I, J, Q, N, A, U, V, X, S, t, rfl, iv, t1, t2⟩ := st
  rcases zhk_cases 6 (by decide) a with e | ⟨e, j, hj, rfl⟩
  · refine both (v := (-1)) (h1 := (zmk r c c c2 I J Q N A U V X S t)) (h2 := (zmk r c c c2 I J Q N A U V X S t)) ?_ ?_ (st_mk iv t1 t2)
    · simp only [E_X5_tear_0, mo_0, mg_0_0, mg_0_1, mg_0_2, mg_0_3, mg_0_4, mg_0_5, mg_0_6, mg_0_7, mg_0_8, mg_0_9, mg_0_10, mg_0_11, if_true, k_rowAt, e, zcQ_null]
    · simp only [E_X6_tear_0, m_row, e, if_true, zcI_some]
  · rcases iv.2.2.2.2.1 j hj with ⟨s1, s2⟩ | ⟨m, hm, s1, s2, s3⟩
    · refine both (v := (-3)) (h1 := (zmk r c c c2 (va_up I 1 (nI 1)) J (va_up Q 0 (upd (Q 0) 1 (Q 0 1 + 1))) N A U V X S t)) (h2 := (zmk r c c c2 (va_up I 1 (nI 1)) J (va_up Q 0 (upd (Q 0) 1 (Q 0 1 + 1))) N A (va_up U 3 (nI 1)) V (va_up X 9 (upd (X 9) 1 (X 9 1 + 1))) S t)) ?_ ?_ (st_mk (iv_found 1 iv (by decide) (by decide)) t1 t2)
      · simp only [E_X5_tear_0, mo_0, mg_0_0, mg_0_1, mg_0_2, mg_0_3, mg_0_4, mg_0_5, mg_0_6, mg_0_7, mg_0_8, mg_0_9, mg_0_10, mg_0_11, if_true, k_rowAt, e, i01, if_false, zcQ_ref, nI_clamp (show j < 2 ^ 31 by omega), mo_r hj, wr_miss hj, s1, zcI_some, k_f1]
      · simp only [E_X6_tear_0, m_row, e, i01, if_false, mo_49, mg_49_0, mg_49_1, mg_49_2, mg_49_3, mg_49_4, mg_49_5, mg_49_6, mg_49_7, mg_49_8, mg_49_9, mg_49_10, mg_49_11, mg_49_12, mg_49_13, mg_49_14, mg_49_15, mg_49_16, mg_49_17, mg_49_18, mg_49_19, mg_49_20, mg_49_21, mg_49_22, mg_49_23, mg_49_24, mg_49_25, Option.bind_some, ma_55 hj, s2, show (-1 : Int32) < 0 from by decide, if_true, zcI_some, m_f1]
    · have iv2 := iv_row iv hj (s := -1) (s2 := -1) (f := Q (13 + j)) (f2 := X 6) (.inl ⟨rfl, rfl⟩) fun q i hq hn hi => rfl
      rw [va_self, show va_up (va_up X 5 (upd (X 5) j (-1))) 6 (X 6) = va_up X 5 (upd (X 5) j (-1)) from by
        have := va_self (va_up X 5 (upd (X 5) j (-1))) 6
        rwa [va_ne (by decide)] at this] at iv2
      refine both (v := 1) (h1 := (zmk r c c c2 (va_up I (6 + j) (-1)) J Q N A U V X S t)) (h2 := (zmk r c c c2 (va_up I (6 + j) (-1)) J Q N A U V (va_up X 5 (upd (X 5) j (-1))) S t)) ?_ ?_ (st_mk iv2 t1 t2)
      · simp only [E_X5_tear_0, mo_0, mg_0_0, mg_0_1, mg_0_2, mg_0_3, mg_0_4, mg_0_5, mg_0_6, mg_0_7, mg_0_8, mg_0_9, mg_0_10, mg_0_11, if_true, k_rowAt, e, i01, if_false, zcQ_ref, nI_clamp (show j < 2 ^ 31 by omega), mo_r hj, wr_miss hj, s1, nI_m1 (show m < 2 ^ 31 by omega), zcI_some, wr_disc hj, zcV_some]
      · simp only [E_X6_tear_0, m_row, e, i01, if_false, mo_49, mg_49_0, mg_49_1, mg_49_2, mg_49_3, mg_49_4, mg_49_5, mg_49_6, mg_49_7, mg_49_8, mg_49_9, mg_49_10, mg_49_11, mg_49_12, mg_49_13, mg_49_14, mg_49_15, mg_49_16, mg_49_17, mg_49_18, mg_49_19, mg_49_20, mg_49_21, mg_49_22, mg_49_23, mg_49_24, mg_49_25, Option.bind_some, ma_55 hj, mw_55 hj, s2, nI_pos (show m < 2 ^ 31 by omega), zcI_some]
end PAIRS
