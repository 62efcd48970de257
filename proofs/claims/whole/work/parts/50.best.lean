/-! BEST, FAIR, MIXED: both alike -/
section BEST
variable {r : zE} {c0 c1 c2 : Nat} {I : Nat → Int32} {J : Nat → Int64} {Q : Nat → Nat → Int32} {N A : zBr} {U : Nat → Int32} {V : Nat → Int64} {X : Nat → Nat → Int32} {S : zSs} {t : zH} {C : zCs} {c n : Nat}
def yVal (C : zCs) (L : zA) (g w : Int32) (p : List Nat) : Int32 := if g = 0 then sAll C (yPl p) L w else if g = 1 then sMost C (yPl p) L w else sAll C (yPl p) L 1 + sAll C (yPl p) L 2
theorem pl_hx {p : List Nat} (h : p.length = C.2.1) : yHx C (yPl p) p := ⟨h, fun _ _ => rfl⟩
theorem lim_val (k : zCk C) {L : zA} (l : zLk C L) {p : List Nat} (hp : p ∈ yPs C) (g w : Int32) : ∃ x, x ≤ 2400 ∧ yVal C L g w p = nI x := by
  obtain ⟨h1, h2⟩ := yPs_mem hp
  have vd := pl_vd (pl_hx h1) h2
  unfold yVal
  split
  · obtain ⟨x, hx, ex⟩ := lim_sAll k l vd w; exact ⟨x, by omega, ex⟩
  · split
    · obtain ⟨x, hx, ex⟩ := lim_sMost k l vd w; exact ⟨x, by omega, ex⟩
    · obtain ⟨x, hx, ex⟩ := lim_sAll k l vd 1
      obtain ⟨y, hy, ey⟩ := lim_sAll k l vd 2
      exact ⟨x + y, by omega, by rw [ex, ey, nI_add]⟩
theorem k_weigh (E : zEk r) (k : zCk C) (hC : zCt r t c C) {L : zA} (lk : zLk C L) {p : List Nat} (ao : yAo C L A p) (g w : Int32) : zev r i_X5_weighed 0 [some (.ref (r.1 + 0)), some (.int g), some (.int w)] [] (zmk r c0 c1 (c) I J Q N A U V X S t) = some (some (.int (yVal C L g w p)), (zmk r c0 c1 (c) I J Q N A U V X S t)) := by
  have ax := aBx (r := r) (c0 := c0) (c1 := c1) (I := I) (J := J) (Q := Q) (N := N) (U := U) (V := V) (X := X) (S := S) hC
  have la : zLk C A.2.2.1 := lk_c ao.2.2.1 lk
  have e1 : ∀ w, zev r i_X0_allWakings 0 [some (.ref (r.1 + 14)), some (.int w), none, none] [] (zmk r c0 c1 (c) I J Q N A U V X S t) = some (some (.int (sAll C (yPl p) L w)), (zmk r c0 c1 (c) I J Q N A U V X S t)) := fun w => by
    rw [b_all ax k E la ao.1 w, sAll_c (hx_pl ao.2.1) ao.2.2.1]
  have e2 : zev r i_X0_mostWakings 0 [some (.ref (r.1 + 14)), some (.int w), none, none] [] (zmk r c0 c1 (c) I J Q N A U V X S t) = some (some (.int (sMost C (yPl p) L w)), (zmk r c0 c1 (c) I J Q N A U V X S t)) := by
    rw [b_most ax k E la ao.1 w, sMost_c (hx_pl ao.2.1) ao.2.2.1]
  simp only [E_X5_weighed_0, mo_0, mg_0_0, mg_0_1, mg_0_2, mg_0_3, mg_0_4, mg_0_5, mg_0_6, mg_0_7, mg_0_8, mg_0_9, mg_0_10, mg_0_11, mo_14, Option.bind_some, if_true, e1, e2, zcI_some, yVal]
  repeat' split
  all_goals rfl
theorem m_value (mv : zMv C U X) (k : zCk C) {L : zA} {H : zA} {p : List Nat} (hp : yHx C H p) (hb : ∀ a, a ∈ p → a < C.1) (hl : ∀ m, m < C.2.1 → S.2.1 m = L m) (g w : Int32) : zev r i_X6_valueOf 0 [some (.ref (r.1 + 49)), some (.int g), some (.int w)] [] (zmk r c0 c1 c2 I J Q N A U V X ((H, S.2)) t) = some (some (.int (yVal C L g w p)), (zmk r c0 c1 c2 I J Q N A U V X ((H, S.2)) t)) := by
  have vd := pl_vd hp hb
  have e1 : ∀ w, zev r i_X6_allWoken 0 [some (.ref (r.1 + 49)), some (.int w), none, none] [] (zmk r c0 c1 c2 I J Q N A U V X ((H, S.2)) t) = some (some (.int (sAll C (yPl p) L w)), (zmk r c0 c1 c2 I J Q N A U V X ((H, S.2)) t)) := fun w => by
    rw [m_all (S := (H, S.2)) mv k vd w, sAll_c (hx_pl hp) hl]
  have e2 : zev r i_X6_mostWoken 0 [some (.ref (r.1 + 49)), some (.int w), none, none, none] [] (zmk r c0 c1 c2 I J Q N A U V X ((H, S.2)) t) = some (some (.int (sMost C (yPl p) L w)), (zmk r c0 c1 c2 I J Q N A U V X ((H, S.2)) t)) := by
    rw [m_most (S := (H, S.2)) mv k vd w, sMost_c (hx_pl hp) hl]
  simp only [E_X6_valueOf_0, mo_49, mg_49_0, mg_49_1, mg_49_2, mg_49_3, mg_49_4, mg_49_5, mg_49_6, mg_49_7, mg_49_8, mg_49_9, mg_49_10, mg_49_11, mg_49_12, mg_49_13, mg_49_14, mg_49_15, mg_49_16, mg_49_17, mg_49_18, mg_49_19, mg_49_20, mg_49_21, mg_49_22, mg_49_23, mg_49_24, mg_49_25, if_true, e1, e2, zcI_some, yVal]
  repeat' split
  all_goals rfl
/-- the least so far, and the plan -/
def yGb (C : zCs) (L : zA) (g w : Int32) (s : Int32 × List Nat) (p : List Nat) : Int32 × List Nat := if yVal C L g w p < s.1 then (yVal C L g w p, p) else s
def yGm (C : zCs) (L : zA) (g w : Int32) (s : Int32 × List Nat) (p : List Nat) : Int32 × List Nat := if s.1 = -9 ∨ yVal C L g w p < s.1 then (yVal C L g w p, p) else s
theorem gb_gm (k : zCk C) {L : zA} (l : zLk C L) (g w : Int32) : (yPs C).foldl (yGm C L g w) (-9, []) = (yPs C).foldl (yGb C L g w) (1000000, []) ∧ ¬ ((yPs C).foldl (yGb C L g w) (1000000, [])).1 = -9 := by
  obtain ⟨l0, el⟩ := yPs_head k
  have hm : ∀ p, p ∈ yPs C → ¬ yVal C L g w p = -9 := fun p hp => by
    obtain ⟨x, hx, ex⟩ := lim_val k l hp g w
    rw [ex]; exact nI_n9 (by omega)
  have rest : ∀ (l1 : List (List Nat)) (s : Int32 × List Nat), (∀ p, p ∈ l1 → p ∈ yPs C) → ¬ s.1 = -9 → l1.foldl (yGm C L g w) s = l1.foldl (yGb C L g w) s ∧ ¬ (l1.foldl (yGb C L g w) s).1 = -9 := by
    intro l1
    induction l1 with
    | nil => intro s _ h; exact ⟨rfl, h⟩
    | cons p l1 ih =>
      intro s hs h
      have e : yGm C L g w s p = yGb C L g w s p := by
        unfold yGm yGb
        simp only [h, false_or]
      have h2 : ¬ (yGb C L g w s p).1 = -9 := by
        unfold yGb
        split
        · exact hm p (hs p List.mem_cons_self)
        · exact h
      rw [List.foldl_cons, List.foldl_cons, e]
      exact ih _ (fun q hq => hs q (List.mem_cons_of_mem _ hq)) h2
  have h0 : List.range C.2.1 ∈ yPs C := by rw [el]; exact List.mem_cons_self
  have e1 : yGm C L g w (-9, []) (List.range C.2.1) = (yVal C L g w (List.range C.2.1), List.range C.2.1) := if_pos (.inl rfl)
  have e2 : yGb C L g w (1000000, []) (List.range C.2.1) = (yVal C L g w (List.range C.2.1), List.range C.2.1) := if_pos (by
    obtain ⟨x, hx, ex⟩ := lim_val k l h0 g w
    rw [ex]; exact nI_lt (b := 1000000) (by omega) (by decide))
  have := rest l0 (yVal C L g w (List.range C.2.1), List.range C.2.1) (fun p hp => by rw [el]; exact List.mem_cons_of_mem _ hp) (hm _ h0)
  rw [el, List.foldl_cons, List.foldl_cons, e1, e2]
  exact this
theorem fold_fst {α β γ : Type} (g : α × β → γ → α × β) (g1 : α → γ → α) (h : ∀ a x, (g a x).1 = g1 a.1 x) : ∀ (l : List γ) (a : α × β), (l.foldl g a).1 = l.foldl g1 a.1
  | [], _ => rfl
  | x :: l, a => by rw [List.foldl_cons, List.foldl_cons, fold_fst g g1 h l, h]
/-- a plan written into a row -/
def yWp (C : zCs) (p : List Nat) (f : zA) : zA := fun i => if i < C.2.1 then nI (p.getD i 0) else f i
theorem yWp_eq {H : zA} {p : List Nat} (hp : yHx C H p) (f : zA) : zfd (fun (f : zA) m => upd f m (H m)) 0 C.2.1 f = yWp C p f := by
  funext i
  have := zfd_inv (f := fun (f : zA) m => upd f m (H m)) (fun j g => g i = if i < j then H i else f i) (j := 0) (n := C.2.1) (s := f) (by simp) (fun g j _ _ ih => by
    by_cases e : i = j
    · subst e
      rw [upd_s, if_pos (by omega)]
    · rw [upd_n e, ih]
      by_cases e2 : i < j
      · rw [if_pos e2, if_pos (by omega)]
      · rw [if_neg e2, if_neg (by omega)])
  rw [Nat.zero_add] at this
  rw [this]
  unfold yWp
  by_cases e : i < C.2.1
  · rw [if_pos e, if_pos e, hp.2 i e]
  · rw [if_neg e, if_neg e]
theorem k_least (E : zEk r) (k : zCk C) (hC : zCt r t c C) (no : zNo C N X) {j : Nat} (hj : j < 6) (g w : Int32) (m0 : ¬ nI C.2.1 = 0) : ∃ A' f, zev r i_X5_leastPlan 0 [some (.ref (r.1 + 0)), some (.int g), some (.int w), some (.ref (r.1 + 23 + 2 * j)), none, none, none, none] [] (zmk r c c c2 I J Q N A U V X S t) = some (some (.int ((yPs C).foldl (yGb C N.2.2.1 g w) (1000000, [])).1), (zmk r c c (c) (va_up I (6 + j) (nI C.2.1)) J (va_up Q (13 + j) f) N (A') U V X S t)) ∧ ∀ i, i < C.2.1 → f i = nI (((yPs C).foldl (yGb C N.2.2.1 g w) (1000000, [])).2.getD i 0) := by
  have k2 := k.2.1
  obtain ⟨A0, e0, ao⟩ := a_begin (c2 := c2) (I := va_up I (6 + j) (nI C.2.1)) (J := J) (Q := va_up Q (13 + j) (fun i => if i < 60 then 0 else Q (13 + j) i)) (A := A) (U := U) (V := V) (S := S) k hC no
  have lp := (yPs_len k).2
  obtain ⟨A1, e1, iv1⟩ := c_all k N.2.2.1 (fun n (a : (Int32 × List Nat) × zA) A => zev r i_X5_leastPlan 49 [some (.ref (r.1 + 0)), some (.int g), some (.int w), some (.ref (r.1 + 23 + 2 * j)), some (.int a.1.1), some (.int (nI n)), none, none] [] (zmk r c c (c) (va_up I (6 + j) (nI C.2.1)) J (va_up Q (13 + j) a.2) N A U V X S t)) (fun a p => if yVal C N.2.2.1 g w p < a.1.1 then ((yVal C N.2.2.1 g w p, p), yWp C p a.2) else a) (fun a => ∀ i, i < C.2.1 → a.2 i = nI (a.1.2.getD i 0)) (fun n a A p iva hn hp ao => by
    have ew := k_weigh (c0 := c) (c1 := c) (I := va_up I (6 + j) (nI C.2.1)) (J := J) (Q := va_up Q (13 + j) a.2) (N := N) (A := A) (U := U) (V := V) (X := X) (S := S) E k hC no.2.1 ao g w
    have n0 : (0 : Int32) < nI (n + 1) := nI_lt (a := 0) (by omega) (by omega)
    by_cases q : yVal C N.2.2.1 g w p < a.1.1
    · obtain ⟨A', en, h1, h2, h3⟩ := a_next (c0 := c) (c1 := c) (I := va_up I (6 + j) (nI C.2.1)) (J := J) (Q := va_up Q (13 + j) (yWp C p a.2)) (N := N) (A := A) (U := U) (V := V) (X := X) (S := S) k hC ao
      rw [if_pos q]
      refine ⟨fun i hi => if_pos hi, A', ?_, h1, h2, h3⟩
      refine (E_X5_leastPlan_49 ..).trans ?_
      simp only [n0, if_true, mo_0, mg_0_0, mg_0_1, mg_0_2, mg_0_3, mg_0_4, mg_0_5, mg_0_6, mg_0_7, mg_0_8, mg_0_9, mg_0_10, mg_0_11, ew, zcI_some, q]
      have l := zloop (fun m (f : zA) => zev r i_X5_leastPlan 76 [some (.ref (r.1 + 0)), some (.int g), some (.int w), some (.ref (r.1 + 23 + 2 * j)), some (.int (yVal C N.2.2.1 g w p)), some (.int (nI (n + 1))), some (.int (yVal C N.2.2.1 g w p)), some (.int (nI m))] [] (zmk r c c (c) (va_up I (6 + j) (nI C.2.1)) J (va_up Q (13 + j) f) N A U V X S t)) (fun f => zcV (zev r i_X0_hangByNextPlan 0 [some (.ref (r.1 + 14)), none, none] [] (zmk r c c (c) (va_up I (6 + j) (nI C.2.1)) J (va_up Q (13 + j) f) N A U V X S t)) fun h2 => zev r i_X5_leastPlan 49 [some (.ref (r.1 + 0)), some (.int g), some (.int w), some (.ref (r.1 + 23 + 2 * j)), some (.int (yVal C N.2.2.1 g w p)), some (.int (nI n)), none, none] [] h2) (fun (f : zA) m => upd f m (A.1 m)) C.2.1 (fun m f hm => by
        refine (E_X5_leastPlan_76 ..).trans ?_
        have es := wr_set (r := r) (c0 := c) (c1 := c) (c2 := c) (I := va_up I (6 + j) (nI C.2.1)) (J := J) (Q := va_up Q (13 + j) f) (N := N) (A := A) (U := U) (V := V) (X := X) (S := S) (t := t) hj (n := C.2.1) (k := m) va_same (by omega) hm (A.1 m)
        rw [va_same, bx_uu] at es
        simp only [mo_0, mg_0_0, mg_0_1, mg_0_2, mg_0_3, mg_0_4, mg_0_5, mg_0_6, mg_0_7, mg_0_8, mg_0_9, mg_0_10, mg_0_11, (hC ..).2.2.1, mg_14_1, Option.bind_some, if_pos (nI_lt6 k hm), ma_15 (show m < 6 by omega), mo_r hj, if_true, es, zcV_some, nI_1]) (fun f => by
        refine (E_X5_leastPlan_76 ..).trans ?_
        simp only [mo_0, mg_0_0, mg_0_1, mg_0_2, mg_0_3, mg_0_4, mg_0_5, mg_0_6, mg_0_7, mg_0_8, mg_0_9, mg_0_10, mg_0_11, (hC ..).2.2.1, mo_14, Option.bind_some, if_neg (nI_nlt6 k), if_true, pk_m1]) a.2
      rw [yWp_eq ao.2.1, en] at l
      exact l
    · obtain ⟨A', en, h1, h2, h3⟩ := a_next (c0 := c) (c1 := c) (I := va_up I (6 + j) (nI C.2.1)) (J := J) (Q := va_up Q (13 + j) a.2) (N := N) (A := A) (U := U) (V := V) (X := X) (S := S) k hC ao
      rw [if_neg q]
      refine ⟨iva, A', ?_, h1, h2, h3⟩
      refine (E_X5_leastPlan_49 ..).trans ?_
      simp only [n0, if_true, mo_0, mg_0_0, mg_0_1, mg_0_2, mg_0_3, mg_0_4, mg_0_5, mg_0_6, mg_0_7, mg_0_8, mg_0_9, mg_0_10, mg_0_11, mo_14, Option.bind_some, ew, zcI_some, q, if_false, en, zcV_some, pk_m1]) ((1000000, []), fun i => if i < 60 then 0 else Q (13 + j) i) A0 (fun i hi => if_pos (by omega)) ao
  have ef := fold_fst (fun (a : (Int32 × List Nat) × zA) (p : List Nat) => if yVal C N.2.2.1 g w p < a.1.1 then ((yVal C N.2.2.1 g w p, p), yWp C p a.2) else a) (yGb C N.2.2.1 g w) (fun a x => by
    unfold yGb
    split <;> rfl) (yPs C) ((1000000, []), fun i => if i < 60 then 0 else Q (13 + j) i)
  rw [ef] at iv1 e1
  refine ⟨A1, _, ?_, iv1⟩
  have st : zev r i_X5_leastPlan 0 [some (.ref (r.1 + 0)), some (.int g), some (.int w), some (.ref (r.1 + 23 + 2 * j)), none, none, none, none] [] (zmk r c c c2 I J Q N A U V X S t) = zev r i_X5_leastPlan 49 [some (.ref (r.1 + 0)), some (.int g), some (.int w), some (.ref (r.1 + 23 + 2 * j)), some (.int 1000000), some (.int (nI (yPs C).length)), none, none] [] (zmk r c c (c) (va_up I (6 + j) (nI C.2.1)) J (va_up Q (13 + j) (fun i => if i < 60 then 0 else Q (13 + j) i)) N (A0) U V X S t) := by
    simp only [E_X5_leastPlan_0, mo_0, mg_0_0, mg_0_1, mg_0_2, mg_0_3, mg_0_4, mg_0_5, mg_0_6, mg_0_7, mg_0_8, mg_0_9, mg_0_10, mg_0_11, (hC ..).1, (hC ..).2.2.1, Option.bind_some, m0, if_false, mo_r hj, if_true, wr_renew hj (show C.2.1 ≤ 60 by omega), zcV_some, e0, cr_plans (hC ..) k, zcI_some, sPlans_eq k]
  rw [st]
  refine e1.trans ?_
  refine (E_X5_leastPlan_49 ..).trans ?_
  rw [if_neg (show ¬ (0 : Int32) < nI 0 by decide)]
/-- the reference's row with a plan written into it -/
def yWm (C : zCs) (j : Nat) (p : List Nat) (f : zA) : zA := zfd (fun (f : zA) m => upd f (40 * j + m) (nI (p.getD m 0))) 0 C.2.1 (zFl f (40 * j) 40 0)
theorem yWm_in {j : Nat} {p : List Nat} {f : zA} {i : Nat} (hi : i < C.2.1) : yWm C j p f (40 * j + i) = nI (p.getD i 0) := by
  unfold yWm
  have := zfd_inv (f := fun (f : zA) m => upd f (40 * j + m) (nI (p.getD m 0))) (fun q g => i < q → g (40 * j + i) = nI (p.getD i 0)) (j := 0) (n := C.2.1) (s := zFl f (40 * j) 40 0) (fun h => absurd h (Nat.not_lt_zero _)) (fun g q _ _ ih h => by
    by_cases e : i = q
    · subst e; exact upd_s
    · exact (upd_n (by omega)).trans (ih (by omega)))
  exact this (by omega)
theorem yWm_out (k : zCk C) {j : Nat} {p : List Nat} {f : zA} {i : Nat} (hi : i < 40 * j ∨ 40 * j + 40 ≤ i) : yWm C j p f i = f i := by
  have k2 := k.2.1
  unfold yWm
  have := zfd_inv (f := fun (f : zA) m => upd f (40 * j + m) (nI (p.getD m 0))) (fun q g => g i = f i) (j := 0) (n := C.2.1) (s := zFl f (40 * j) 40 0) (by unfold zFl; rw [if_neg (by omega)]) (fun g q _ _ ih => (upd_n (by omega)).trans ih)
  exact this
theorem m_best (mv : zMv C U X) (k : zCk C) (no : zNo C N X) {j : Nat} (hj : j < 6) (g w : Int32) (m0 : ¬ nI C.2.1 = 0) : ∃ f, (∀ c0 c1 c2 I J Q N' A V t, ∃ S', zev r i_X6_toBest 0 [some (.ref (r.1 + 49)), some (.int g), some (.int w), some (.int (nI j)), none, none, none, none] [] (zmk r c0 c1 c2 I J Q (N') A U V X S t) = some (some (.int ((yPs C).foldl (yGb C N.2.2.1 g w) (1000000, [])).1), (zmk r c0 c1 c2 I J Q (N') A U V (va_up (va_up X 5 (upd (X 5) j (nI C.2.1))) 6 f) (S') t))) ∧ (∀ i, i < C.2.1 → f (40 * j + i) = nI (((yPs C).foldl (yGb C N.2.2.1 g w) (1000000, [])).2.getD i 0)) ∧ ∀ q i, q < 6 → q ≠ j → i < 40 → f (40 * q + i) = X 6 (40 * q + i) := by
  have k2 := k.2.1
  have k3 := k.2.2.1
  have hN : 0 < C.1 := by
    refine Nat.lt_of_lt_of_le (Nat.pos_of_ne_zero fun q => m0 ?_) k3
    rw [q]; rfl
  obtain ⟨H0, e0, h0⟩ := m_first (r := r) (S := S) mv k no
  obtain ⟨gm, gn⟩ := gb_gm k no.2.1 g w
  have ef := fold_fst (fun (a : (Int32 × List Nat) × (zA × zA)) (p : List Nat) => if a.1.1 = -9 ∨ yVal C N.2.2.1 g w p < a.1.1 then ((yVal C N.2.2.1 g w p, p), (upd a.2.1 j (nI C.2.1), yWm C j p a.2.2)) else a) (yGm C N.2.2.1 g w) (fun a x => by
    unfold yGm
    split <;> rfl) (yPs C) ((-9, []), (X 5, X 6))
  rw [gm] at ef
  have key : ∀ c0 c1 c2 I J Q N' A V t, _ := fun c0 c1 c2 I J Q N' A V t =>
    m_all' k hN (fun (a : (Int32 × List Nat) × (zA × zA)) H => zev r i_X6_toBest 21 [some (.ref (r.1 + 49)), some (.int g), some (.int w), some (.int (nI j)), some (.int a.1.1), some (.int 1), none, none] [] (zmk r c0 c1 c2 I J Q (N') A U V (va_up (va_up X 5 a.2.1) 6 a.2.2) ((H, (zNw X S).2)) t)) (fun (a : (Int32 × List Nat) × (zA × zA)) H => zev r i_X6_toBest 21 [some (.ref (r.1 + 49)), some (.int g), some (.int w), some (.int (nI j)), some (.int a.1.1), some (.int 0), none, none] [] (zmk r c0 c1 c2 I J Q (N') A U V (va_up (va_up X 5 a.2.1) 6 a.2.2) ((H, (zNw X S).2)) t)) (fun (a : (Int32 × List Nat) × (zA × zA)) (p : List Nat) => if a.1.1 = -9 ∨ yVal C N.2.2.1 g w p < a.1.1 then ((yVal C N.2.2.1 g w p, p), (upd a.2.1 j (nI C.2.1), yWm C j p a.2.2)) else a) (fun a => (a.1.1 = -9 ∧ a.2.1 = X 5 ∨ a.2.1 = upd (X 5) j (nI C.2.1) ∧ ∀ i, i < C.2.1 → a.2.2 (40 * j + i) = nI (a.1.2.getD i 0)) ∧ ∀ q i, q < 6 → q ≠ j → i < 40 → a.2.2 (40 * q + i) = X 6 (40 * q + i)) (fun a H p l iva hp hb hn hr hbl => by
      have mvx : ∀ f1 f2, zMv C U (va_up (va_up X 5 f1) 6 f2) := fun f1 f2 => zMv_c mv rfl rfl rfl rfl rfl rfl
      have ev := m_value (r := r) (c0 := c0) (c1 := c1) (c2 := c2) (I := I) (J := J) (Q := Q) (N := N') (A := A) (V := V) (S := zNw X S) (t := t) (mvx a.2.1 a.2.2) k hp hb (now_l k no) g w
      by_cases q : a.1.1 = -9 ∨ yVal C N.2.2.1 g w p < a.1.1
      · rw [if_pos q]
        obtain ⟨H', en, hn'⟩ := m_go (r := r) (c0 := c0) (c1 := c1) (c2 := c2) (I := I) (J := J) (Q := Q) (N := N') (A := A) (V := V) (S := zNw X S) (t := t) (mvx (upd a.2.1 j (nI C.2.1)) (yWm C j p a.2.2)) k hp hr hbl
        refine ⟨⟨.inr ⟨?_, fun i hi => yWm_in hi⟩, fun q i h1 h2 h3 => (yWm_out k (by omega)).trans (iva.2 q i h1 h2 h3)⟩, H', ?_⟩
        · rcases iva.1 with ⟨-, z⟩ | ⟨z, -⟩
          · rw [z]
          · rw [z, upd_twice]
        · have st : zev r i_X6_toBest 21 [some (.ref (r.1 + 49)), some (.int g), some (.int w), some (.int (nI j)), some (.int a.1.1), some (.int 1), none, none] [] (zmk r c0 c1 c2 I J Q (N') A U V (va_up (va_up X 5 a.2.1) 6 a.2.2) ((H, (zNw X S).2)) t) = zev r i_X6_toBest 21 [some (.ref (r.1 + 49)), some (.int g), some (.int w), some (.int (nI j)), some (.int (yVal C N.2.2.1 g w p)), some (.int (match l.find? (fun q => decide q.Nodup) with | some _ => 1 | none => 0)), none, none] [] (zmk r c0 c1 c2 I J Q (N') A U V (va_up (va_up X 5 (upd a.2.1 j (nI C.2.1))) 6 (yWm C j p a.2.2)) ((H', (zNw X S).2)) t) := by
            have emk := m_make (r := r) (c0 := c0) (c1 := c1) (c2 := c2) (I := I) (J := J) (Q := Q) (N := N') (A := A) (U := U) (V := V) (X := va_up (va_up X 5 a.2.1) 6 a.2.2) (S := (H, (zNw X S).2)) (t := t) hj (nI C.2.1)
            have ex : va_up (va_up (va_up (va_up X 5 a.2.1) 6 a.2.2) 5 (upd ((va_up (va_up X 5 a.2.1) 6 a.2.2) 5) j (nI C.2.1))) 6 (zFl ((va_up (va_up X 5 a.2.1) 6 a.2.2) 6) (40 * j) 40 0) = va_up (va_up X 5 (upd a.2.1 j (nI C.2.1))) 6 (zFl a.2.2 (40 * j) 40 0) := by
              rw [va_same, va_ne (show (5 : Nat) ≠ 6 by decide), va_same]
              funext i
              by_cases i6 : i = 6
              · subst i6; rw [va_same, va_same]
              · rw [va_ne i6, va_ne i6]
                by_cases i5 : i = 5
                · subst i5; rw [va_same, va_same]
                · rw [va_ne i5, va_ne i6, va_ne i5, va_ne i5]
            rw [ex] at emk
            have l64 := zloop (fun m (f : zA) => zev r i_X6_toBest 64 [some (.ref (r.1 + 49)), some (.int g), some (.int w), some (.int (nI j)), some (.int (yVal C N.2.2.1 g w p)), some (.int 1), some (.int (yVal C N.2.2.1 g w p)), some (.int (nI m))] [] (zmk r c0 c1 c2 I J Q (N') A U V (va_up (va_up X 5 (upd a.2.1 j (nI C.2.1))) 6 f) ((H, (zNw X S).2)) t)) (fun f => zcI (zev r i_X6_nextPlan 0 [some (.ref (r.1 + 49)), none, none] [] (zmk r c0 c1 c2 I J Q (N') A U V (va_up (va_up X 5 (upd a.2.1 j (nI C.2.1))) 6 f) ((H, (zNw X S).2)) t)) fun v5 h2 => zev r i_X6_toBest 21 [some (.ref (r.1 + 49)), some (.int g), some (.int w), some (.int (nI j)), some (.int (yVal C N.2.2.1 g w p)), some (.int v5), none, none] [] h2) (fun (f : zA) m => upd f (40 * j + m) (nI (p.getD m 0))) C.2.1 (fun m f hm => by
              refine (E_X6_toBest_64 ..).trans ?_
              have e40 : (40 : Int32) * nI j + nI m = nI (40 * j + m) := by rw [show (40 : Int32) = nI 40 from rfl, pk_mul, nI_add]
              simp only [mo_49, mg_49_0, mg_49_1, mg_49_2, mg_49_3, mg_49_4, mg_49_5, mg_49_6, mg_49_7, mg_49_8, mg_49_9, mg_49_10, mg_49_11, mg_49_12, mg_49_13, mg_49_14, mg_49_15, mg_49_16, mg_49_17, mg_49_18, mg_49_19, mg_49_20, mg_49_21, mg_49_22, mg_49_23, mg_49_24, mg_49_25, Option.bind_some, if_pos (m_lt mv k hm), ma_62 (show m < 6 by omega), hp.2 m hm, e40, mw_56 (show 40 * j + m < 240 by omega), va_same, bx_uu, nI_1]) (fun f => by
              refine (E_X6_toBest_64 ..).trans ?_
              simp only [mo_49, mg_49_0, mg_49_1, mg_49_2, mg_49_3, mg_49_4, mg_49_5, mg_49_6, mg_49_7, mg_49_8, mg_49_9, mg_49_10, mg_49_11, mg_49_12, mg_49_13, mg_49_14, mg_49_15, mg_49_16, mg_49_17, mg_49_18, mg_49_19, mg_49_20, mg_49_21, mg_49_22, mg_49_23, mg_49_24, mg_49_25, Option.bind_some, if_neg (m_nlt mv k), if_true]) (zFl a.2.2 (40 * j) 40 0)
            refine (E_X6_toBest_21 ..).trans ?_
            simp only [i01, if_false, mo_49, mg_49_0, mg_49_1, mg_49_2, mg_49_3, mg_49_4, mg_49_5, mg_49_6, mg_49_7, mg_49_8, mg_49_9, mg_49_10, mg_49_11, mg_49_12, mg_49_13, mg_49_14, mg_49_15, mg_49_16, mg_49_17, mg_49_18, mg_49_19, mg_49_20, mg_49_21, mg_49_22, mg_49_23, mg_49_24, mg_49_25, if_true, ev, zcI_some, Option.bind_some, mv.2.1, emk, zcV_some]
            by_cases q1 : a.1.1 = -9
            · rw [if_pos q1]
              refine l64.trans ?_
              show zcI (zev r i_X6_nextPlan 0 [some (.ref (r.1 + 49)), none, none] [] (zmk r c0 c1 c2 I J Q (N') A U V (va_up (va_up X 5 (upd a.2.1 j (nI C.2.1))) 6 (yWm C j p a.2.2)) ((H, (zNw X S).2)) t)) _ = _
              rw [en]; rfl
            · rw [if_neg q1, if_pos (q.resolve_left q1)]
              refine l64.trans ?_
              show zcI (zev r i_X6_nextPlan 0 [some (.ref (r.1 + 49)), none, none] [] (zmk r c0 c1 c2 I J Q (N') A U V (va_up (va_up X 5 (upd a.2.1 j (nI C.2.1))) 6 (yWm C j p a.2.2)) ((H, (zNw X S).2)) t)) _ = _
              rw [en]; rfl
          refine ⟨fun z hz => ?_, fun hz => ?_⟩
          · rw [hz] at st
            exact ⟨st, hn' z hz⟩
          · rw [hz] at st
            exact st
      · rw [if_neg q]
        obtain ⟨H', en, hn'⟩ := m_go (r := r) (c0 := c0) (c1 := c1) (c2 := c2) (I := I) (J := J) (Q := Q) (N := N') (A := A) (V := V) (S := zNw X S) (t := t) (mvx a.2.1 a.2.2) k hp hr hbl
        refine ⟨iva, H', ?_⟩
        have q1 : ¬ a.1.1 = -9 := fun z => q (.inl z)
        have q2 : ¬ yVal C N.2.2.1 g w p < a.1.1 := fun z => q (.inr z)
        have st : zev r i_X6_toBest 21 [some (.ref (r.1 + 49)), some (.int g), some (.int w), some (.int (nI j)), some (.int a.1.1), some (.int 1), none, none] [] (zmk r c0 c1 c2 I J Q (N') A U V (va_up (va_up X 5 a.2.1) 6 a.2.2) ((H, (zNw X S).2)) t) = zev r i_X6_toBest 21 [some (.ref (r.1 + 49)), some (.int g), some (.int w), some (.int (nI j)), some (.int a.1.1), some (.int (match l.find? (fun q => decide q.Nodup) with | some _ => 1 | none => 0)), none, none] [] (zmk r c0 c1 c2 I J Q (N') A U V (va_up (va_up X 5 a.2.1) 6 a.2.2) ((H', (zNw X S).2)) t) := by
          refine (E_X6_toBest_21 ..).trans ?_
          simp only [i01, if_false, mo_49, mg_49_0, mg_49_1, mg_49_2, mg_49_3, mg_49_4, mg_49_5, mg_49_6, mg_49_7, mg_49_8, mg_49_9, mg_49_10, mg_49_11, mg_49_12, mg_49_13, mg_49_14, mg_49_15, mg_49_16, mg_49_17, mg_49_18, mg_49_19, mg_49_20, mg_49_21, mg_49_22, mg_49_23, mg_49_24, mg_49_25, if_true, ev, zcI_some, q1, q2, en]
          rfl
        refine ⟨fun z hz => ?_, fun hz => ?_⟩
        · rw [hz] at st
          exact ⟨st, hn' z hz⟩
        · rw [hz] at st
          exact st) ((-9, []), (X 5, X 6)) H0 ⟨.inl ⟨rfl, rfl⟩, fun _ _ _ _ _ => rfl⟩ h0
  obtain ⟨-, -, iv0⟩ := key 0 0 0 (fun _ => 0) (fun _ => 0) (fun _ _ => 0) N N (fun _ => 0) []
  have rows : ((yPs C).foldl (fun (a : (Int32 × List Nat) × (zA × zA)) (p : List Nat) => if a.1.1 = -9 ∨ yVal C N.2.2.1 g w p < a.1.1 then ((yVal C N.2.2.1 g w p, p), (upd a.2.1 j (nI C.2.1), yWm C j p a.2.2)) else a) ((-9, []), (X 5, X 6))).2.1 = upd (X 5) j (nI C.2.1) ∧ ∀ i, i < C.2.1 → ((yPs C).foldl (fun (a : (Int32 × List Nat) × (zA × zA)) (p : List Nat) => if a.1.1 = -9 ∨ yVal C N.2.2.1 g w p < a.1.1 then ((yVal C N.2.2.1 g w p, p), (upd a.2.1 j (nI C.2.1), yWm C j p a.2.2)) else a) ((-9, []), (X 5, X 6))).2.2 (40 * j + i) = nI (((yPs C).foldl (yGb C N.2.2.1 g w) (1000000, [])).2.getD i 0) := by
    rcases iv0.1 with ⟨z, -⟩ | ⟨z1, z2⟩
    · rw [ef] at z; exact absurd z gn
    · rw [ef] at z2; exact ⟨z1, z2⟩
  refine ⟨_, fun c0 c1 c2 I J Q N' A V t => ?_, rows.2, iv0.2⟩
  obtain ⟨H', e1, -⟩ := key c0 c1 c2 I J Q N' A V t
  refine ⟨(H', (zNw X S).2), ?_⟩
  have e2 := e0 c0 c1 c2 I J Q N' A V t
  simp only [E_X6_toBest_0, mo_49, mg_49_0, mg_49_1, mg_49_2, mg_49_3, mg_49_4, mg_49_5, mg_49_6, mg_49_7, mg_49_8, mg_49_9, mg_49_10, mg_49_11, mg_49_12, mg_49_13, mg_49_14, mg_49_15, mg_49_16, mg_49_17, mg_49_18, mg_49_19, mg_49_20, mg_49_21, mg_49_22, mg_49_23, mg_49_24, mg_49_25, Option.bind_some, mv.2.1, m0, if_false, if_true, e2, zcV_some]
  have x56 : va_up (va_up X 5 (X 5)) 6 (X 6) = X := by rw [va_self, va_self]
  rw [x56] at e1
  refine e1.trans ?_
  refine (E_X6_toBest_21 ..).trans ?_
  rw [if_pos rfl, ef, rows.1]
theorem lk_plan (E : zEk r) (iv : zIv r C c I J Q N U V X t) (m0 : ¬ nI C.2.1 = 0) {j : Nat} (hj : j < 6) (g w : Int32) : ∃ v I' Q' A' X', zev r i_X5_leastPlan 0 [some (.ref (r.1 + 0)), some (.int g), some (.int w), some (.ref (r.1 + 23 + 2 * j)), none, none, none, none] [] (zmk r c c c2 I J Q N A U V X S t) = some (some (.int v), (zmk r c c (c) (I') J (Q') N (A') U V X S t)) ∧ (∃ S', zev r i_X6_toBest 0 [some (.ref (r.1 + 49)), some (.int g), some (.int w), some (.int (nI j)), none, none, none, none] [] (zmk r c c (c) (I') J (Q') N (A') U V X S t) = some (some (.int v), (zmk r c c (c) (I') J (Q') N (A') U V (X') (S') t))) ∧ zIv r C c I' J Q' N U V X' t := by
  obtain ⟨k, hC, mv, _, _, _, no, -⟩ := id iv
  have k2 := k.2.1
  obtain ⟨A', f, e1, h1⟩ := k_least (c2 := c2) (I := I) (J := J) (Q := Q) (A := A) (U := U) (V := V) (S := S) E k hC no hj g w m0
  obtain ⟨f2, e2, h2, h3⟩ := m_best (r := r) (S := S) mv k no hj g w m0
  obtain ⟨S', e3⟩ := e2 c c c (va_up I (6 + j) (nI C.2.1)) J (va_up Q (13 + j) f) N A' V t
  refine ⟨_, _, _, A', _, e1, ⟨S', e3⟩, iv_row iv hj (.inr ⟨C.2.1, by omega, rfl, rfl, fun i hi => ?_⟩) fun q i hq hn hi => h3 q i hq hn hi⟩
  exact (h1 i hi).trans (h2 i hi).symm
theorem lk_best (E : zEk r) (w a : Int32) {h : zH} (st : zSt r n h) : zBoth r n n (zev r i_X5_best 0 [some (.ref (r.1 + 0)), some (.int w), some (.int a)] []) (zev r i_X6_best 0 [some (.ref (r.1 + 49)), some (.int w), some (.int a)] []) h := by
  obtain ⟨C, c, c2, I, J, Q, N, A, U, V, X, S, t, rfl, iv, t1, t2⟩ := st
  obtain ⟨k, hC, mv, _, _, _, no, -⟩ := id iv
  rcases zhk_cases 3 (by decide) w with g | ⟨g, w, hw, rfl⟩
  · refine both (v := (-1)) (h1 := (zmk r c c c2 I J Q N A U V X S t)) (h2 := (zmk r c c c2 I J Q N A U V X S t)) ?_ ?_ (st_mk iv t1 t2)
    · simp only [E_X5_best_0, k_when, g, if_true, zcI_some]
    · simp only [E_X6_best_0, m_when, g, if_true, zcI_some]
  rcases zhk_cases 6 (by decide) a with e | ⟨e, j, hj, rfl⟩
  · refine both (v := (-1)) (h1 := (zmk r c c c2 I J Q N A U V X S t)) (h2 := (zmk r c c c2 I J Q N A U V X S t)) ?_ ?_ (st_mk iv t1 t2)
    · simp only [E_X5_best_0, k_when, g, i01, if_false, zcI_some, mo_0, mg_0_0, mg_0_1, mg_0_2, mg_0_3, mg_0_4, mg_0_5, mg_0_6, mg_0_7, mg_0_8, mg_0_9, mg_0_10, mg_0_11, if_true, k_rowAt, e, zcQ_null, E_X5_leastPlan_0_n]
    · simp only [E_X6_best_0, m_when, g, i01, if_false, zcI_some, m_row, e, if_true]
  by_cases m0 : nI C.2.1 = 0
  · refine both (v := (-4)) (h1 := (zmk r c c c2 I J Q N A U V X S t)) (h2 := (zmk r c c c2 I J Q N A U V X S t)) ?_ ?_ (st_mk iv t1 t2)
    · simp only [E_X5_best_0, k_when, g, i01, if_false, zcI_some, mo_0, mg_0_0, mg_0_1, mg_0_2, mg_0_3, mg_0_4, mg_0_5, mg_0_6, mg_0_7, mg_0_8, mg_0_9, mg_0_10, mg_0_11, if_true, k_rowAt, e, zcQ_ref, nI_clamp (show j < 2 ^ 31 by omega), E_X5_leastPlan_0, (hC ..).2.2.1, Option.bind_some, m0]
    · simp only [E_X6_best_0, m_when, g, i01, if_false, zcI_some, m_row, e, mo_49, mg_49_0, mg_49_1, mg_49_2, mg_49_3, mg_49_4, mg_49_5, mg_49_6, mg_49_7, mg_49_8, mg_49_9, mg_49_10, mg_49_11, mg_49_12, mg_49_13, mg_49_14, mg_49_15, mg_49_16, mg_49_17, mg_49_18, mg_49_19, mg_49_20, mg_49_21, mg_49_22, mg_49_23, mg_49_24, mg_49_25, if_true, E_X6_toBest_0, Option.bind_some, mv.2.1, m0]
  obtain ⟨v, I', Q', A', X', e1, ⟨S', e2⟩, iv2⟩ := lk_plan (c2 := c2) (A := A) (S := S) E iv m0 hj 0 (nI w)
  refine both (v := v) (h1 := (zmk r c c (c) (I') J (Q') N (A') U V X S t)) (h2 := (zmk r c c (c) (I') J (Q') N (A') U V (X') (S') t)) ?_ ?_ (st_mk iv2 t1 t2)
  · simp only [E_X5_best_0, k_when, g, i01, if_false, zcI_some, mo_0, mg_0_0, mg_0_1, mg_0_2, mg_0_3, mg_0_4, mg_0_5, mg_0_6, mg_0_7, mg_0_8, mg_0_9, mg_0_10, mg_0_11, if_true, k_rowAt, e, zcQ_ref, nI_clamp (show j < 2 ^ 31 by omega), e1]
  · simp only [E_X6_best_0, m_when, g, i01, if_false, zcI_some, m_row, e, mo_49, mg_49_0, mg_49_1, mg_49_2, mg_49_3, mg_49_4, mg_49_5, mg_49_6, mg_49_7, mg_49_8, mg_49_9, mg_49_10, mg_49_11, mg_49_12, mg_49_13, mg_49_14, mg_49_15, mg_49_16, mg_49_17, mg_49_18, mg_49_19, mg_49_20, mg_49_21, mg_49_22, mg_49_23, mg_49_24, mg_49_25, if_true, e2]
theorem lk_fair (E : zEk r) (w a : Int32) {h : zH} (st : zSt r n h) : zBoth r n n (zev r i_X5_fair 0 [some (.ref (r.1 + 0)), some (.int w), some (.int a)] []) (zev r i_X6_fair 0 [some (.ref (r.1 + 49)), some (.int w), some (.int a)] []) h := by
  obtain ⟨C, c, c2, I, J, Q, N, A, U, V, X, S, t, rfl, iv, t1, t2⟩ := st
  obtain ⟨k, hC, mv, _, _, _, no, -⟩ := id iv
  rcases zhk_cases 3 (by decide) w with g | ⟨g, w, hw, rfl⟩
  · refine both (v := (-1)) (h1 := (zmk r c c c2 I J Q N A U V X S t)) (h2 := (zmk r c c c2 I J Q N A U V X S t)) ?_ ?_ (st_mk iv t1 t2)
    · simp only [E_X5_fair_0, k_when, g, if_true, zcI_some]
    · simp only [E_X6_fair_0, m_when, g, if_true, zcI_some]
  rcases zhk_cases 6 (by decide) a with e | ⟨e, j, hj, rfl⟩
  · refine both (v := (-1)) (h1 := (zmk r c c c2 I J Q N A U V X S t)) (h2 := (zmk r c c c2 I J Q N A U V X S t)) ?_ ?_ (st_mk iv t1 t2)
    · simp only [E_X5_fair_0, k_when, g, i01, if_false, zcI_some, mo_0, mg_0_0, mg_0_1, mg_0_2, mg_0_3, mg_0_4, mg_0_5, mg_0_6, mg_0_7, mg_0_8, mg_0_9, mg_0_10, mg_0_11, if_true, k_rowAt, e, zcQ_null, E_X5_leastPlan_0_n]
    · simp only [E_X6_fair_0, m_when, g, i01, if_false, zcI_some, m_row, e, if_true]
  by_cases m0 : nI C.2.1 = 0
  · refine both (v := (-4)) (h1 := (zmk r c c c2 I J Q N A U V X S t)) (h2 := (zmk r c c c2 I J Q N A U V X S t)) ?_ ?_ (st_mk iv t1 t2)
    · simp only [E_X5_fair_0, k_when, g, i01, if_false, zcI_some, mo_0, mg_0_0, mg_0_1, mg_0_2, mg_0_3, mg_0_4, mg_0_5, mg_0_6, mg_0_7, mg_0_8, mg_0_9, mg_0_10, mg_0_11, if_true, k_rowAt, e, zcQ_ref, nI_clamp (show j < 2 ^ 31 by omega), E_X5_leastPlan_0, (hC ..).2.2.1, Option.bind_some, m0]
    · simp only [E_X6_fair_0, m_when, g, i01, if_false, zcI_some, m_row, e, mo_49, mg_49_0, mg_49_1, mg_49_2, mg_49_3, mg_49_4, mg_49_5, mg_49_6, mg_49_7, mg_49_8, mg_49_9, mg_49_10, mg_49_11, mg_49_12, mg_49_13, mg_49_14, mg_49_15, mg_49_16, mg_49_17, mg_49_18, mg_49_19, mg_49_20, mg_49_21, mg_49_22, mg_49_23, mg_49_24, mg_49_25, if_true, E_X6_toBest_0, Option.bind_some, mv.2.1, m0]
  obtain ⟨v, I', Q', A', X', e1, ⟨S', e2⟩, iv2⟩ := lk_plan (c2 := c2) (A := A) (S := S) E iv m0 hj 1 (nI w)
  refine both (v := v) (h1 := (zmk r c c (c) (I') J (Q') N (A') U V X S t)) (h2 := (zmk r c c (c) (I') J (Q') N (A') U V (X') (S') t)) ?_ ?_ (st_mk iv2 t1 t2)
  · simp only [E_X5_fair_0, k_when, g, i01, if_false, zcI_some, mo_0, mg_0_0, mg_0_1, mg_0_2, mg_0_3, mg_0_4, mg_0_5, mg_0_6, mg_0_7, mg_0_8, mg_0_9, mg_0_10, mg_0_11, if_true, k_rowAt, e, zcQ_ref, nI_clamp (show j < 2 ^ 31 by omega), e1]
  · simp only [E_X6_fair_0, m_when, g, i01, if_false, zcI_some, m_row, e, mo_49, mg_49_0, mg_49_1, mg_49_2, mg_49_3, mg_49_4, mg_49_5, mg_49_6, mg_49_7, mg_49_8, mg_49_9, mg_49_10, mg_49_11, mg_49_12, mg_49_13, mg_49_14, mg_49_15, mg_49_16, mg_49_17, mg_49_18, mg_49_19, mg_49_20, mg_49_21, mg_49_22, mg_49_23, mg_49_24, mg_49_25, if_true, e2]
theorem lk_mixed (E : zEk r) (a : Int32) {h : zH} (st : zSt r n h) : zBoth r n n (zev r i_X5_mixed 0 [some (.ref (r.1 + 0)), some (.int a)] []) (zev r i_X6_mixed 0 [some (.ref (r.1 + 49)), some (.int a)] []) h := by
  obtain ⟨C, c, c2, I, J, Q, N, A, U, V, X, S, t, rfl, iv, t1, t2⟩ := st
  obtain ⟨k, hC, mv, _, _, _, no, -⟩ := id iv
  rcases zhk_cases 6 (by decide) a with e | ⟨e, j, hj, rfl⟩
  · refine both (v := (-1)) (h1 := (zmk r c c c2 I J Q N A U V X S t)) (h2 := (zmk r c c c2 I J Q N A U V X S t)) ?_ ?_ (st_mk iv t1 t2)
    · simp only [E_X5_mixed_0, mo_0, mg_0_0, mg_0_1, mg_0_2, mg_0_3, mg_0_4, mg_0_5, mg_0_6, mg_0_7, mg_0_8, mg_0_9, mg_0_10, mg_0_11, if_true, k_rowAt, e, zcQ_null, E_X5_leastPlan_0_n, zcI_some]
    · simp only [E_X6_mixed_0, zcI_some, m_row, e, if_true]
  by_cases m0 : nI C.2.1 = 0
  · refine both (v := (-4)) (h1 := (zmk r c c c2 I J Q N A U V X S t)) (h2 := (zmk r c c c2 I J Q N A U V X S t)) ?_ ?_ (st_mk iv t1 t2)
    · simp only [E_X5_mixed_0, i01, if_false, zcI_some, mo_0, mg_0_0, mg_0_1, mg_0_2, mg_0_3, mg_0_4, mg_0_5, mg_0_6, mg_0_7, mg_0_8, mg_0_9, mg_0_10, mg_0_11, if_true, k_rowAt, e, zcQ_ref, nI_clamp (show j < 2 ^ 31 by omega), E_X5_leastPlan_0, (hC ..).2.2.1, Option.bind_some, m0]
    · simp only [E_X6_mixed_0, i01, if_false, zcI_some, m_row, e, mo_49, mg_49_0, mg_49_1, mg_49_2, mg_49_3, mg_49_4, mg_49_5, mg_49_6, mg_49_7, mg_49_8, mg_49_9, mg_49_10, mg_49_11, mg_49_12, mg_49_13, mg_49_14, mg_49_15, mg_49_16, mg_49_17, mg_49_18, mg_49_19, mg_49_20, mg_49_21, mg_49_22, mg_49_23, mg_49_24, mg_49_25, if_true, E_X6_toBest_0, Option.bind_some, mv.2.1, m0]
  obtain ⟨v, I', Q', A', X', e1, ⟨S', e2⟩, iv2⟩ := lk_plan (c2 := c2) (A := A) (S := S) E iv m0 hj 2 0
  refine both (v := v) (h1 := (zmk r c c (c) (I') J (Q') N (A') U V X S t)) (h2 := (zmk r c c (c) (I') J (Q') N (A') U V (X') (S') t)) ?_ ?_ (st_mk iv2 t1 t2)
  · simp only [E_X5_mixed_0, i01, if_false, zcI_some, mo_0, mg_0_0, mg_0_1, mg_0_2, mg_0_3, mg_0_4, mg_0_5, mg_0_6, mg_0_7, mg_0_8, mg_0_9, mg_0_10, mg_0_11, if_true, k_rowAt, e, zcQ_ref, nI_clamp (show j < 2 ^ 31 by omega), e1]
  · simp only [E_X6_mixed_0, i01, if_false, zcI_some, m_row, e, mo_49, mg_49_0, mg_49_1, mg_49_2, mg_49_3, mg_49_4, mg_49_5, mg_49_6, mg_49_7, mg_49_8, mg_49_9, mg_49_10, mg_49_11, mg_49_12, mg_49_13, mg_49_14, mg_49_15, mg_49_16, mg_49_17, mg_49_18, mg_49_19, mg_49_20, mg_49_21, mg_49_22, mg_49_23, mg_49_24, mg_49_25, if_true, e2]
end BEST
