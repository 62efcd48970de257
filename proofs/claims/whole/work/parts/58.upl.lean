/-! UP: what does not depend on where it lies; the reference's loop -/
section ORD
variable {C : zCs} {H H' : zA}
theorem adj_c (e : ∀ m, m < C.2.1 → H' m = H m) {a b : Nat} (ha : a < C.2.1) (hb : b < C.2.1) (w : Int32) : yAdj C H' w a b = yAdj C H w a b := by
  unfold yAdj
  rw [sBes_c (e b hb) (e a ha)]
theorem sm_c (e : ∀ m, m < C.2.1 → H' m = H m) (w : Int32) : yMen C H' w = yMen C H w := by
  unfold yMen
  refine List.filter_congr fun m hm => ?_
  rw [List.mem_range] at hm
  rw [sIn_c (e m hm)]
theorem ww_c {adj adj' : Nat → Nat → Bool} {ht : Nat → Nat} {a b : Nat} (e : adj a b = adj' a b) : yWw adj ht a b = yWw adj' ht a b := by
  unfold yWw
  rw [e]
theorem cs_c {adj adj' : Nat → Nat → Bool} {ht : Nat → Nat} : ∀ {o : List Nat}, (∀ a b, a ∈ o → b ∈ o → adj a b = adj' a b) → yCs adj ht o = yCs adj' ht o
  | [], _ => rfl
  | a :: l, h => by
    rw [yCs, yCs, cs_c (o := l) fun x y hx hy => h x y (List.mem_cons_of_mem _ hx) (List.mem_cons_of_mem _ hy)]
    congr 2
    exact List.map_congr_left fun x hx => ww_c (h a x List.mem_cons_self (List.mem_cons_of_mem _ hx))
theorem ok_c {adj adj' : Nat → Nat → Bool} {ht : Nat → Nat} {a b : Nat} (e : adj a b = adj' a b) : yOk adj ht a b = yOk adj' ht a b := by
  unfold yOk
  rw [e]
theorem all_c {p q : Nat → Bool} {s : List Nat} (h : ∀ x, x ∈ s → p x = q x) : s.all p = s.all q := by
  rw [Bool.eq_iff_iff, List.all_eq_true, List.all_eq_true]
  exact ⟨fun w x hx => (h x hx).symm.trans (w x hx), fun w x hx => (h x hx).trans (w x hx)⟩
theorem find_c {p q : Nat → Bool} : ∀ {s : List Nat}, (∀ x, x ∈ s → p x = q x) → s.find? p = s.find? q
  | [], _ => rfl
  | a :: s, h => by
    rw [List.find?_cons, List.find?_cons, h a List.mem_cons_self, find_c (s := s) fun x hx => h x (List.mem_cons_of_mem _ hx)]
theorem yG_c {adj adj' : Nat → Nat → Bool} {ht : Nat → Nat} : ∀ {n : Nat} {s : List Nat}, (∀ a b, a ∈ s → b ∈ s → adj a b = adj' a b) → yG adj ht n s = yG adj' ht n s
  | 0, _, _ => rfl
  | n + 1, s, h => by
    rw [yG, yG]
    have e : (s.find? fun a => s.all (yOk adj ht a)) = s.find? fun a => s.all (yOk adj' ht a) := find_c fun x hx => all_c fun y hy => ok_c (h x y hx hy)
    rw [e]
    cases s.find? fun a => s.all (yOk adj' ht a) with
    | none => rfl
    | some m =>
      dsimp only
      rw [yG_c (n := n) (s := s.erase m) fun a b ha hb => h a b (List.mem_of_mem_erase ha) (List.mem_of_mem_erase hb)]
theorem yG_perm {adj : Nat → Nat → Bool} {ht : Nat → Nat} {n : Nat} {s : List Nat} (h : s.length = n) : (yG adj ht n s).Perm s := yPm_perm h (List.mem_of_find?_eq_some (yG_find adj ht n s h))
theorem ite_sy (P Q : Prop) [Decidable P] [Decidable Q] : ((if P then (1 : Int32) else if Q then 1 else 0) = 0) ↔ ((if Q then (1 : Int32) else if P then 1 else 0) = 0) := by
  by_cases p : P <;> by_cases q : Q <;> simp [p, q]
theorem in_h {m : Nat} {w : Int32} (i : ¬ sIn C H m w = 0) : ¬ H m = -9 := fun q => i (by unfold sIn; rw [if_pos q])
theorem bes_sy {a b : Nat} {w : Int32} (ia : ¬ sIn C H a w = 0) (ib : ¬ sIn C H b w = 0) : sBes C H a b w = 0 ↔ sBes C H b a w = 0 := by
  have e : ∀ x y : Int32, x = y + 1 ↔ y = x - 1 := fun x y => ⟨fun q => by rw [q, Int32.add_sub_cancel], fun q => by rw [q, Int32.sub_add_cancel]⟩
  unfold sBes
  rw [if_neg (in_h ib), if_neg ia, if_neg (in_h ia), if_neg ib]
  simp only [i32_sub1, i32_subm]
  have f1 : (H b = H a + 1) = (H a = H b - 1) := propext (e (H b) (H a))
  have f2 : (H b = H a - 1) = (H a = H b + 1) := propext (e (H a) (H b)).symm
  simp only [f1, f2]
  exact ite_sy _ _
theorem adj_sy {w : Int32} {a b : Nat} (ha : a ∈ yMen C H w) (hb : b ∈ yMen C H w) : yAdj C H w a b = yAdj C H w b a := by
  unfold yAdj
  have := bes_sy (sm_lt hb).2 (sm_lt ha).2
  rw [Bool.eq_iff_iff]
  simp only [Bool.not_eq_true', decide_eq_false_iff_not]
  exact not_congr this
theorem ww_lim {adj : Nat → Nat → Bool} {ht : Nat → Nat} (h : ∀ b, ht b ≤ 2) (a : Nat) : ∀ l : List Nat, (l.map (yWw adj ht a)).sum ≤ 3 * l.length
  | [] => Nat.zero_le _
  | b :: l => by
    have i := ww_lim (adj := adj) h a l
    have hb := h b
    rw [List.map_cons, List.sum_cons, List.length_cons]
    have : yWw adj ht a b ≤ 3 := by
      unfold yWw
      split <;> omega
    omega
theorem cs_lim {adj : Nat → Nat → Bool} {ht : Nat → Nat} (h : ∀ b, ht b ≤ 2) : ∀ l : List Nat, l.length ≤ 6 → yCs adj ht l ≤ 18 * l.length
  | [], _ => Nat.zero_le _
  | a :: l, hl => by
    rw [List.length_cons] at hl
    have i := cs_lim (adj := adj) h l (by omega)
    have s := ww_lim (adj := adj) h a l
    rw [yCs, List.length_cons]
    omega
theorem cs_1000 (k : zCk C) (w : Int32) {o : List Nat} (ho : o.length ≤ 6) : yCs (yAdj C H w) (yHt C) o < 1000 := by
  have := cs_lim (adj := yAdj C H w) (ht := yHt C) (fun b => (yHt_eq C b).2) o ho
  omega
end ORD
section UPM
def yGu (C : zCs) (H : zA) (w : Int32) (j n : Nat) (a : (Int32 × List Nat) × (zA × zA)) (p : List Nat) : (Int32 × List Nat) × (zA × zA) := if a.1.1 = -9 ∨ nI (yCs (yAdj C H w) (yHt C) p) < a.1.1 then ((nI (yCs (yAdj C H w) (yHt C) p), p), (upd a.2.1 j (nI n), yWo j p a.2.2)) else a
def yIu (X : Nat → zA) (j n : Nat) (a : (Int32 × List Nat) × (zA × zA)) : Prop := (a.1.1 = -9 ∧ a.2.1 = X 5 ∨ a.2.1 = upd (X 5) j (nI n) ∧ ∀ i, i < n → a.2.2 (40 * j + i) = nI (a.1.2.getD i 0)) ∧ ∀ q i, q < 6 → q ≠ j → i < 40 → a.2.2 (40 * q + i) = X 6 (40 * q + i)
variable {r : zE} {c0 c1 c2 : Nat} {I : Nat → Int32} {J : Nat → Int64} {Q : Nat → Nat → Int32} {N A : zBr} {U : Nat → Int32} {V : Nat → Int64} {X : Nat → Nat → Int32} {S : zSs} {t : zH} {C : zCs} {c n : Nat}
/-- the order of those who get up; how much they stand in the way -/
def yUp (C : zCs) (H : zA) (w : Int32) : List Nat := yG (yAdj C H w) (yHt C) (yMen C H w).length (yMen C H w)
theorem up_len (C : zCs) (H : zA) (w : Int32) : (yUp C H w).length = (yMen C H w).length := (yG_perm rfl).length_eq
theorem m_up (mv : zMv C U X) (k : zCk C) (no : zNo C N X) {j : Nat} (hj : j < 6) {w : Nat} (hw : w < 3) (m0 : ¬ nI C.2.1 = 0) : ∃ f, (∀ c0 c1 c2 I J Q N' A V t, ∃ S', zev r i_X6_up 0 [some (.ref (r.1 + 49)), some (.int (nI w)), some (.int (nI j)), none, none, none, none, none] [] (zmk r c0 c1 c2 I J Q (N') A U V X S t) = some (some (.int (nI (yCs (yAdj C N.1 (nI w)) (yHt C) (yUp C N.1 (nI w))))), (zmk r c0 c1 c2 I J Q (N') A U V (va_up (va_up X 5 (upd (X 5) j (nI (yMen C N.1 (nI w)).length))) 6 f) (S') t))) ∧ (∀ i, i < (yMen C N.1 (nI w)).length → f (40 * j + i) = nI ((yUp C N.1 (nI w)).getD i 0)) ∧ ∀ q i, q < 6 → q ≠ j → i < 40 → f (40 * q + i) = X 6 (40 * q + i) := by
  have k2 := k.2.1
  have es : yMen C (zNw X S).1 (nI w) = yMen C N.1 (nI w) := sm_c (now_h k no) (nI w)
  have n6 := sm_len k N.1 (nI w)
  obtain ⟨s, hs⟩ : ∃ s, yMen C N.1 (nI w) = s := ⟨_, rfl⟩
  rw [hs] at n6 es ⊢
  have sl : ∀ a, a ∈ s → a < C.2.1 ∧ ¬ sIn C N.1 a (nI w) = 0 := fun a ha => by rw [← hs] at ha; exact sm_lt ha
  have hf := first_least (yAdj C N.1 (nI w)) (yHt C) (s := s) (fun a b ha hb => by rw [← hs] at ha hb; exact adj_sy ha hb) (fun o ho => cs_1000 k (nI w) (by rw [(yPm_perm rfl ho).length_eq]; exact n6))
  have eu : yUp C N.1 (nI w) = yG (yAdj C N.1 (nI w)) (yHt C) s.length s := by unfold yUp; rw [hs]
  rw [← eu] at hf
  obtain ⟨L, eL⟩ := yPm_head s.length s rfl
  have hrun : yRn yNo none (yPm s.length s) := by
    have := no_run k2 (fun m => !decide (sIn C N.1 m (nI w) = 0))
    rw [← hs]
    exact this
  have ef := fold_fst (yGu C N.1 (nI w) j s.length) (yCm (yAdj C N.1 (nI w)) (yHt C)) (fun a x => by
    unfold yCm yGu
    split <;> rfl) (yPm s.length s) ((-9, []), (X 5, X 6))
  rw [hf] at ef
  have key : ∀ c0 c1 c2 I J Q N' A V t O, yOx O s → ∃ O', zev r i_X6_up 78 [some (.ref (r.1 + 49)), some (.int (nI w)), some (.int (nI j)), some (.int (nI s.length)), some (.int (-9)), some (.int 1), none, none] [] (zmk r c0 c1 c2 I J Q (N') A U V X (((zNw X S).1, (zNw X S).2.1, O)) t) = zev r i_X6_up 78 [some (.ref (r.1 + 49)), some (.int (nI w)), some (.int (nI j)), some (.int (nI s.length)), some (.int ((yPm s.length s).foldl (yGu C N.1 (nI w) j s.length) ((-9, []), (X 5, X 6))).1.1), some (.int 0), none, none] [] (zmk r c0 c1 c2 I J Q (N') A U V (va_up (va_up X 5 ((yPm s.length s).foldl (yGu C N.1 (nI w) j s.length) ((-9, []), (X 5, X 6))).2.1) 6 ((yPm s.length s).foldl (yGu C N.1 (nI w) j s.length) ((-9, []), (X 5, X 6))).2.2) (((zNw X S).1, (zNw X S).2.1, O')) t) ∧ yIu X j s.length ((yPm s.length s).foldl (yGu C N.1 (nI w) j s.length) ((-9, []), (X 5, X 6))) := fun c0 c1 c2 I J Q N' A V t O hO => by
    have M := m_ords (fun (a : (Int32 × List Nat) × (zA × zA)) O => zev r i_X6_up 78 [some (.ref (r.1 + 49)), some (.int (nI w)), some (.int (nI j)), some (.int (nI s.length)), some (.int a.1.1), some (.int 1), none, none] [] (zmk r c0 c1 c2 I J Q (N') A U V (va_up (va_up X 5 a.2.1) 6 a.2.2) (((zNw X S).1, (zNw X S).2.1, O)) t)) (fun (a : (Int32 × List Nat) × (zA × zA)) O => zev r i_X6_up 78 [some (.ref (r.1 + 49)), some (.int (nI w)), some (.int (nI j)), some (.int (nI s.length)), some (.int a.1.1), some (.int 0), none, none] [] (zmk r c0 c1 c2 I J Q (N') A U V (va_up (va_up X 5 a.2.1) 6 a.2.2) (((zNw X S).1, (zNw X S).2.1, O)) t)) (yGu C N.1 (nI w) j s.length) (yIu X j s.length) (yPm s.length s) (fun a O p iva ho hp => by
      have pp := yPm_perm rfl hp
      have pl : p.length = s.length := pp.length_eq
      have pb : ∀ a, a ∈ p → a < C.2.1 := fun a ha => (sl a (pp.mem_iff.mp ha)).1
      have pb6 : ∀ a, a ∈ p → a < 6 := fun a ha => by have := pb a ha; omega
      have mvx : ∀ f1 f2, zMv C U (va_up (va_up X 5 f1) 6 f2) := fun f1 f2 => zMv_c mv rfl rfl rfl rfl rfl rfl
      have ew := m_way (r := r) (c0 := c0) (c1 := c1) (c2 := c2) (I := I) (J := J) (Q := Q) (N := N') (A := A) (V := V) (S := ((zNw X S).1, (zNw X S).2.1, O)) (t := t) (mvx a.2.1 a.2.2) k ho pb (by omega) (nI w)
      rw [pl, cs_c (adj := yAdj C (zNw X S).1 (nI w)) (adj' := yAdj C N.1 (nI w)) fun a b ha hb => adj_c (now_h k no) (pb a ha) (pb b hb) (nI w)] at ew
      by_cases q : a.1.1 = -9 ∨ nI (yCs (yAdj C N.1 (nI w)) (yHt C) p) < a.1.1
      · rw [show yGu C N.1 (nI w) j s.length a p = ((nI (yCs (yAdj C N.1 (nI w)) (yHt C) p), p), (upd a.2.1 j (nI s.length), yWo j p a.2.2)) from if_pos q]
        obtain ⟨O', en, hn'⟩ := m_nexto (r := r) (c0 := c0) (c1 := c1) (c2 := c2) (I := I) (J := J) (Q := Q) (N := N') (A := A) (U := U) (V := V) (X := va_up (va_up X 5 (upd a.2.1 j (nI s.length))) 6 (yWo j p a.2.2)) (S := ((zNw X S).1, (zNw X S).2.1, O)) (t := t) ho (by omega) pb6
        rw [pl] at en
        refine ⟨⟨.inr ⟨?_, fun i hi => yWo_in (by omega)⟩, fun q i h1 h2 h3 => (yWo_out (by omega) (by omega)).trans (iva.2 q i h1 h2 h3)⟩, O', ?_⟩
        · rcases iva.1 with ⟨-, z⟩ | ⟨z, -⟩
          · rw [z]
          · rw [z, upd_twice]
        · have st : zev r i_X6_up 78 [some (.ref (r.1 + 49)), some (.int (nI w)), some (.int (nI j)), some (.int (nI s.length)), some (.int a.1.1), some (.int 1), none, none] [] (zmk r c0 c1 c2 I J Q (N') A U V (va_up (va_up X 5 a.2.1) 6 a.2.2) (((zNw X S).1, (zNw X S).2.1, O)) t) = zev r i_X6_up 78 [some (.ref (r.1 + 49)), some (.int (nI w)), some (.int (nI j)), some (.int (nI s.length)), some (.int (nI (yCs (yAdj C N.1 (nI w)) (yHt C) p))), some (.int (match yNo p with | some _ => 1 | none => 0)), none, none] [] (zmk r c0 c1 c2 I J Q (N') A U V (va_up (va_up X 5 (upd a.2.1 j (nI s.length))) 6 (yWo j p a.2.2)) (((zNw X S).1, (zNw X S).2.1, O')) t) := by
            have emk := m_make (r := r) (c0 := c0) (c1 := c1) (c2 := c2) (I := I) (J := J) (Q := Q) (N := N') (A := A) (U := U) (V := V) (X := va_up (va_up X 5 a.2.1) 6 a.2.2) (S := ((zNw X S).1, (zNw X S).2.1, O)) (t := t) hj (nI s.length)
            have ex : va_up (va_up (va_up (va_up X 5 a.2.1) 6 a.2.2) 5 (upd ((va_up (va_up X 5 a.2.1) 6 a.2.2) 5) j (nI s.length))) 6 (zFl ((va_up (va_up X 5 a.2.1) 6 a.2.2) 6) (40 * j) 40 0) = va_up (va_up X 5 (upd a.2.1 j (nI s.length))) 6 (zFl a.2.2 (40 * j) 40 0) := by
              rw [va_same, va_ne (show (5 : Nat) ≠ 6 by decide), va_same]
              funext i
              by_cases i6 : i = 6
              · subst i6; rw [va_same, va_same]
              · rw [va_ne i6, va_ne i6]
                by_cases i5 : i = 5
                · subst i5; rw [va_same, va_same]
                · rw [va_ne i5, va_ne i6, va_ne i5, va_ne i5]
            rw [ex] at emk
            have l118 := zloop (fun m (f : zA) => zev r i_X6_up 118 [some (.ref (r.1 + 49)), some (.int (nI w)), some (.int (nI j)), some (.int (nI s.length)), some (.int (nI (yCs (yAdj C N.1 (nI w)) (yHt C) p))), some (.int 1), some (.int (nI (yCs (yAdj C N.1 (nI w)) (yHt C) p))), some (.int (nI m))] [] (zmk r c0 c1 c2 I J Q (N') A U V (va_up (va_up X 5 (upd a.2.1 j (nI s.length))) 6 f) (((zNw X S).1, (zNw X S).2.1, O)) t)) (fun f => zcI (zev r i_X6_nextOrder 0 [some (.ref (r.1 + 49)), some (.int (nI s.length)), none, none, none, none, none] [] (zmk r c0 c1 c2 I J Q (N') A U V (va_up (va_up X 5 (upd a.2.1 j (nI s.length))) 6 f) (((zNw X S).1, (zNw X S).2.1, O)) t)) fun v4 h2 => zev r i_X6_up 78 [some (.ref (r.1 + 49)), some (.int (nI w)), some (.int (nI j)), some (.int (nI s.length)), some (.int (nI (yCs (yAdj C N.1 (nI w)) (yHt C) p))), some (.int v4), none, none] [] h2) (fun (f : zA) m => upd f (40 * j + m) (nI (p.getD m 0))) s.length (fun m f hm => by
              refine (E_X6_up_118 ..).trans ?_
              have e40 : (40 : Int32) * nI j + nI m = nI (40 * j + m) := by rw [show (40 : Int32) = nI 40 from rfl, pk_mul, nI_add]
              simp only [mo_49, mg_49_0, mg_49_1, mg_49_2, mg_49_3, mg_49_4, mg_49_5, mg_49_6, mg_49_7, mg_49_8, mg_49_9, mg_49_10, mg_49_11, mg_49_12, mg_49_13, mg_49_14, mg_49_15, mg_49_16, mg_49_17, mg_49_18, mg_49_19, mg_49_20, mg_49_21, mg_49_22, mg_49_23, mg_49_24, mg_49_25, Option.bind_some, if_pos (nI_lt hm (show s.length < 2 ^ 31 by omega)), ma_64 (show m < 6 by omega), ho m (show m < p.length by omega), e40, mw_56 (show 40 * j + m < 240 by omega), va_same, bx_uu, nI_1]) (fun f => by
              refine (E_X6_up_118 ..).trans ?_
              simp only [mo_49, mg_49_0, mg_49_1, mg_49_2, mg_49_3, mg_49_4, mg_49_5, mg_49_6, mg_49_7, mg_49_8, mg_49_9, mg_49_10, mg_49_11, mg_49_12, mg_49_13, mg_49_14, mg_49_15, mg_49_16, mg_49_17, mg_49_18, mg_49_19, mg_49_20, mg_49_21, mg_49_22, mg_49_23, mg_49_24, mg_49_25, Option.bind_some, if_neg (nI_nlt (Nat.le_refl s.length) (show s.length < 2 ^ 31 by omega)), if_true]) (zFl a.2.2 (40 * j) 40 0)
            have ewo : zfd (fun (f : zA) m => upd f (40 * j + m) (nI (p.getD m 0))) 0 s.length (zFl a.2.2 (40 * j) 40 0) = yWo j p a.2.2 := by unfold yWo; rw [pl]
            rw [ewo, en] at l118
            refine (E_X6_up_78 ..).trans ?_
            simp only [i01, if_false, mo_49, mg_49_0, mg_49_1, mg_49_2, mg_49_3, mg_49_4, mg_49_5, mg_49_6, mg_49_7, mg_49_8, mg_49_9, mg_49_10, mg_49_11, mg_49_12, mg_49_13, mg_49_14, mg_49_15, mg_49_16, mg_49_17, mg_49_18, mg_49_19, mg_49_20, mg_49_21, mg_49_22, mg_49_23, mg_49_24, mg_49_25, if_true, ew, zcI_some, emk, zcV_some]
            by_cases q1 : a.1.1 = -9
            · rw [if_pos q1]
              exact l118
            · rw [if_neg q1, if_pos (q.resolve_left q1)]
              exact l118
          refine ⟨fun z hz => ?_, fun hz => ?_⟩
          · rw [hz] at st
            exact ⟨st, hn' z hz⟩
          · rw [hz] at st
            exact st
      · rw [show yGu C N.1 (nI w) j s.length a p = a from if_neg q]
        obtain ⟨O', en, hn'⟩ := m_nexto (r := r) (c0 := c0) (c1 := c1) (c2 := c2) (I := I) (J := J) (Q := Q) (N := N') (A := A) (U := U) (V := V) (X := va_up (va_up X 5 a.2.1) 6 a.2.2) (S := ((zNw X S).1, (zNw X S).2.1, O)) (t := t) ho (by omega) pb6
        rw [pl] at en
        refine ⟨iva, O', ?_⟩
        have q1 : ¬ a.1.1 = -9 := fun z => q (.inl z)
        have q2 : ¬ nI (yCs (yAdj C N.1 (nI w)) (yHt C) p) < a.1.1 := fun z => q (.inr z)
        have st : zev r i_X6_up 78 [some (.ref (r.1 + 49)), some (.int (nI w)), some (.int (nI j)), some (.int (nI s.length)), some (.int a.1.1), some (.int 1), none, none] [] (zmk r c0 c1 c2 I J Q (N') A U V (va_up (va_up X 5 a.2.1) 6 a.2.2) (((zNw X S).1, (zNw X S).2.1, O)) t) = zev r i_X6_up 78 [some (.ref (r.1 + 49)), some (.int (nI w)), some (.int (nI j)), some (.int (nI s.length)), some (.int a.1.1), some (.int (match yNo p with | some _ => 1 | none => 0)), none, none] [] (zmk r c0 c1 c2 I J Q (N') A U V (va_up (va_up X 5 a.2.1) 6 a.2.2) (((zNw X S).1, (zNw X S).2.1, O')) t) := by
          refine (E_X6_up_78 ..).trans ?_
          simp only [i01, if_false, mo_49, mg_49_0, mg_49_1, mg_49_2, mg_49_3, mg_49_4, mg_49_5, mg_49_6, mg_49_7, mg_49_8, mg_49_9, mg_49_10, mg_49_11, mg_49_12, mg_49_13, mg_49_14, mg_49_15, mg_49_16, mg_49_17, mg_49_18, mg_49_19, mg_49_20, mg_49_21, mg_49_22, mg_49_23, mg_49_24, mg_49_25, if_true, ew, zcI_some, q1, q2, en]
          rfl
        refine ⟨fun z hz => ?_, fun hz => ?_⟩
        · rw [hz] at st
          exact ⟨st, hn' z hz⟩
        · rw [hz] at st
          exact st) L s ((-9, []), (X 5, X 6)) O (by rw [← eL]; exact hrun) (fun q hq => by rw [eL]; exact hq) ⟨.inl ⟨rfl, rfl⟩, fun _ _ _ _ _ => rfl⟩ hO
    rw [← eL] at M
    have x56 : va_up (va_up X 5 (X 5)) 6 (X 6) = X := by rw [va_self, va_self]
    dsimp only at M
    rw [x56] at M
    exact M
  obtain ⟨O0, -, iv0⟩ := key 0 0 0 (fun _ => 0) (fun _ => 0) (fun _ _ => 0) N N (fun _ => 0) [] (fun i => nI (s.getD i 0)) (fun _ _ => rfl)
  have rows := iv0.1
  rw [ef] at rows
  have rows2 := rows.resolve_left (fun z => nI_n9 (by have := cs_1000 (H := N.1) k (nI w) (o := yUp C N.1 (nI w)) (by rw [up_len, hs]; exact n6); omega) z.1)
  refine ⟨_, fun c0 c1 c2 I J Q N' A V t => ?_, rows2.2, iv0.2⟩
  obtain ⟨O1, e35, hO1⟩ := m_up35 (r := r) (c0 := c0) (c1 := c1) (c2 := c2) (I := I) (J := J) (Q := Q) (N := N') (A := A) (V := V) (S := zNw X S) (t := t) mv k (nI w) (nI j) (zNw X S).2.2
  rw [es] at e35 hO1
  obtain ⟨O2, e1, -⟩ := key c0 c1 c2 I J Q N' A V t O1 hO1
  refine ⟨((zNw X S).1, (zNw X S).2.1, O2), ?_⟩
  simp only [E_X6_up_0, m_when, m_row, zhk_in hw (show 3 < 2 ^ 31 by decide), zhk_in hj (show 6 < 2 ^ 31 by decide), zcI_some, i01, if_false, mo_49, mg_49_0, mg_49_1, mg_49_2, mg_49_3, mg_49_4, mg_49_5, mg_49_6, mg_49_7, mg_49_8, mg_49_9, mg_49_10, mg_49_11, mg_49_12, mg_49_13, mg_49_14, mg_49_15, mg_49_16, mg_49_17, mg_49_18, mg_49_19, mg_49_20, mg_49_21, mg_49_22, mg_49_23, mg_49_24, mg_49_25, Option.bind_some, mv.2.1, m0, if_true, m_now, zcV_some]
  refine e35.trans (e1.trans ?_)
  refine (E_X6_up_78 ..).trans ?_
  rw [if_pos rfl, ef, rows2.1]
end UPM
