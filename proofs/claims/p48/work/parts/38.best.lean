/-! BEST PLANS, THE MEAN, BOOKS, A PLAN JUDGED, MESSMATES -/
section BEST
variable {r : zE} {c0 c1 c2 : Nat} {I : Nat → Int32} {J : Nat → Int64} {Q : Nat → Nat → Int32} {N A : zBr} {Ga Va : Nat → Int32} {t : zH} {C : zCs} {c n : Nat}
def yVal (C : zCs) (L : zA) (g w : Int32) (p : List Nat) : Int32 := if g = 0 then sAll C (yPl p) L w else if g = 1 then sMost C (yPl p) L w else sAll C (yPl p) L 1 + sAll C (yPl p) L 2
theorem pl_hx {p : List Nat} (h : p.length = C.2.1) : yHx C (yPl p) p := ⟨h, fun _ _ => rfl⟩
theorem lim_val (k : zCk C) {L : zA} (l : zLk C L) {p : List Nat} (hp : p ∈ yPs C) (g w : Int32) : ∃ x, x ≤ 2400 ∧ yVal C L g w p = nI x := by
  obtain ⟨h1, h2⟩ := yPs_mem hp
  have vd := pl_vd (pl_hx h1) h2
  unfold yVal
  split
  · obtain ⟨x, hx, ex⟩ := lim_sAll k l vd w; exact ⟨x, by omega, ex⟩
  · split
    · obtain ⟨x, hx, ex⟩ := lim_sMost k l vd w; exact ⟨x, by omega, ex⟩
    · obtain ⟨x, hx, ex⟩ := lim_sAll k l vd 1
      obtain ⟨y, hy, ey⟩ := lim_sAll k l vd 2
      exact ⟨x + y, by omega, by rw [ex, ey, nI_add]⟩
theorem k_weigh (E : zEk r) (k : zCk C) (hC : zCt r t c C) {L : zA} (lk : zLk C L) {p : List Nat} (ao : yAo C L A p) (g w : Int32) : zev r i_X5_weighed 0 [some (.ref (r.1 + 0)), some (.int g), some (.int w)] [] (zmk r c0 c1 (c) I J Q N A Ga Va t) = some (some (.int (yVal C L g w p)), (zmk r c0 c1 (c) I J Q N A Ga Va t)) := by
  have ax := aBx (r := r) (c0 := c0) (c1 := c1) (I := I) (J := J) (Q := Q) (N := N) (Ga := Ga) (Va := Va) hC
  have la : zLk C A.2.2.1 := lk_c ao.2.2.1 lk
  have e1 : ∀ w, zev r i_X0_allWakings 0 [some (.ref (r.1 + 14)), some (.int w), none, none] [] (zmk r c0 c1 (c) I J Q N A Ga Va t) = some (some (.int (sAll C (yPl p) L w)), (zmk r c0 c1 (c) I J Q N A Ga Va t)) := fun w => by
    rw [b_all ax k E la ao.1 w, sAll_c (hx_pl ao.2.1) ao.2.2.1]
  have e2 : zev r i_X0_mostWakings 0 [some (.ref (r.1 + 14)), some (.int w), none, none] [] (zmk r c0 c1 (c) I J Q N A Ga Va t) = some (some (.int (sMost C (yPl p) L w)), (zmk r c0 c1 (c) I J Q N A Ga Va t)) := by
    rw [b_most ax k E la ao.1 w, sMost_c (hx_pl ao.2.1) ao.2.2.1]
  simp only [E_X5_weighed_0, mo_0, mg_0_0, mg_0_1, mg_0_2, mg_0_3, mg_0_4, mg_0_5, mg_0_6, mg_0_7, mg_0_8, mg_0_9, mg_0_10, mg_0_11, mo_14, Option.bind_some, if_true, e1, e2, zcI_some, yVal]
  repeat' split
  all_goals rfl
def yGb (C : zCs) (L : zA) (g w : Int32) (s : Int32 × List Nat) (p : List Nat) : Int32 × List Nat := if yVal C L g w p < s.1 then (yVal C L g w p, p) else s
theorem fold_fst {α β γ : Type} (g : α × β → γ → α × β) (g1 : α → γ → α) (h : ∀ a x, (g a x).1 = g1 a.1 x) : ∀ (l : List γ) (a : α × β), (l.foldl g a).1 = l.foldl g1 a.1
  | [], _ => rfl
  | x :: l, a => by rw [List.foldl_cons, List.foldl_cons, fold_fst g g1 h l, h]
def yWp (C : zCs) (p : List Nat) (f : zA) : zA := fun i => if i < C.2.1 then nI (p.getD i 0) else f i
theorem yWp_eq {H : zA} {p : List Nat} (hp : yHx C H p) (f : zA) : zfd (fun (f : zA) m => upd f m (H m)) 0 C.2.1 f = yWp C p f := by
  funext i
  have := zfd_inv (f := fun (f : zA) m => upd f m (H m)) (fun j g => g i = if i < j then H i else f i) (j := 0) (n := C.2.1) (s := f) (by simp) (fun g j _ _ ih => by
    by_cases e : i = j
    · subst e
      rw [upd_s, if_pos (by omega)]
    · rw [upd_n e, ih]
      by_cases e2 : i < j
      · rw [if_pos e2, if_pos (by omega)]
      · rw [if_neg e2, if_neg (by omega)])
  rw [Nat.zero_add] at this
  rw [this]
  unfold yWp
  by_cases e : i < C.2.1
  · rw [if_pos e, if_pos e, hp.2 i e]
  · rw [if_neg e, if_neg e]
theorem k_least (E : zEk r) (k : zCk C) (hC : zCt r t c C) (no : zNo C N) {j : Nat} (hj : j < 6) (g w : Int32) (m0 : ¬ nI C.2.1 = 0) : ∃ A' f, zev r i_X5_leastPlan 0 [some (.ref (r.1 + 0)), some (.int g), some (.int w), some (.ref (r.1 + 23 + 2 * j)), none, none, none, none] [] (zmk r c c c2 I J Q N A Ga Va t) = some (some (.int ((yPs C).foldl (yGb C N.2.2.1 g w) (1000000, [])).1), (zmk r c c (c) (va_up I (6 + j) (nI C.2.1)) J (va_up Q (13 + j) f) N (A') Ga Va t)) ∧ ∀ i, i < C.2.1 → f i = nI (((yPs C).foldl (yGb C N.2.2.1 g w) (1000000, [])).2.getD i 0) := by
  have k2 := k.2.1
  obtain ⟨A0, e0, ao⟩ := a_begin (c2 := c2) (I := va_up I (6 + j) (nI C.2.1)) (J := J) (Q := va_up Q (13 + j) (fun i => if i < 60 then 0 else Q (13 + j) i)) (A := A) (Ga := Ga) (Va := Va) k hC no
  have lp := (yPs_len k).2
  obtain ⟨A1, e1, iv1⟩ := c_all k N.2.2.1 (fun n (a : (Int32 × List Nat) × zA) A => zev r i_X5_leastPlan 49 [some (.ref (r.1 + 0)), some (.int g), some (.int w), some (.ref (r.1 + 23 + 2 * j)), some (.int a.1.1), some (.int (nI n)), none, none] [] (zmk r c c (c) (va_up I (6 + j) (nI C.2.1)) J (va_up Q (13 + j) a.2) N A Ga Va t)) (fun a p => if yVal C N.2.2.1 g w p < a.1.1 then ((yVal C N.2.2.1 g w p, p), yWp C p a.2) else a) (fun a => ∀ i, i < C.2.1 → a.2 i = nI (a.1.2.getD i 0)) (fun n a A p iva hn hp ao => by
    have ew := k_weigh (c0 := c) (c1 := c) (I := va_up I (6 + j) (nI C.2.1)) (J := J) (Q := va_up Q (13 + j) a.2) (N := N) (A := A) (Ga := Ga) (Va := Va) E k hC no.2.1 ao g w
    have n0 : (0 : Int32) < nI (n + 1) := nI_lt (a := 0) (by omega) (by omega)
    by_cases q : yVal C N.2.2.1 g w p < a.1.1
    · obtain ⟨A', en, h1, h2, h3⟩ := a_next (c0 := c) (c1 := c) (I := va_up I (6 + j) (nI C.2.1)) (J := J) (Q := va_up Q (13 + j) (yWp C p a.2)) (N := N) (A := A) (Ga := Ga) (Va := Va) k hC ao
      rw [if_pos q]
      refine ⟨fun i hi => if_pos hi, A', ?_, h1, h2, h3⟩
      refine (E_X5_leastPlan_49 ..).trans ?_
      simp only [n0, if_true, mo_0, mg_0_0, mg_0_1, mg_0_2, mg_0_3, mg_0_4, mg_0_5, mg_0_6, mg_0_7, mg_0_8, mg_0_9, mg_0_10, mg_0_11, ew, zcI_some, q]
      have l := zloop (fun m (f : zA) => zev r i_X5_leastPlan 76 [some (.ref (r.1 + 0)), some (.int g), some (.int w), some (.ref (r.1 + 23 + 2 * j)), some (.int (yVal C N.2.2.1 g w p)), some (.int (nI (n + 1))), some (.int (yVal C N.2.2.1 g w p)), some (.int (nI m))] [] (zmk r c c (c) (va_up I (6 + j) (nI C.2.1)) J (va_up Q (13 + j) f) N A Ga Va t)) (fun f => zcV (zev r i_X0_hangByNextPlan 0 [some (.ref (r.1 + 14)), none, none] [] (zmk r c c (c) (va_up I (6 + j) (nI C.2.1)) J (va_up Q (13 + j) f) N A Ga Va t)) fun h2 => zev r i_X5_leastPlan 49 [some (.ref (r.1 + 0)), some (.int g), some (.int w), some (.ref (r.1 + 23 + 2 * j)), some (.int (yVal C N.2.2.1 g w p)), some (.int (nI n)), none, none] [] h2) (fun (f : zA) m => upd f m (A.1 m)) C.2.1 (fun m f hm => by
        refine (E_X5_leastPlan_76 ..).trans ?_
        have es := wr_set (r := r) (c0 := c) (c1 := c) (c2 := c) (I := va_up I (6 + j) (nI C.2.1)) (J := J) (Q := va_up Q (13 + j) f) (N := N) (A := A) (Ga := Ga) (Va := Va) (t := t) hj (n := C.2.1) (k := m) va_same (by omega) hm (A.1 m)
        rw [va_same, bx_uu] at es
        simp only [mo_0, mg_0_0, mg_0_1, mg_0_2, mg_0_3, mg_0_4, mg_0_5, mg_0_6, mg_0_7, mg_0_8, mg_0_9, mg_0_10, mg_0_11, (hC ..).2.2.1, mg_14_1, Option.bind_some, if_pos (nI_lt6 k hm), ma_15 (show m < 6 by omega), mo_r hj, if_true, es, zcV_some, nI_1]) (fun f => by
        refine (E_X5_leastPlan_76 ..).trans ?_
        simp only [mo_0, mg_0_0, mg_0_1, mg_0_2, mg_0_3, mg_0_4, mg_0_5, mg_0_6, mg_0_7, mg_0_8, mg_0_9, mg_0_10, mg_0_11, (hC ..).2.2.1, mo_14, Option.bind_some, if_neg (nI_nlt6 k), if_true, pk_m1]) a.2
      rw [yWp_eq ao.2.1, en] at l
      exact l
    · obtain ⟨A', en, h1, h2, h3⟩ := a_next (c0 := c) (c1 := c) (I := va_up I (6 + j) (nI C.2.1)) (J := J) (Q := va_up Q (13 + j) a.2) (N := N) (A := A) (Ga := Ga) (Va := Va) k hC ao
      rw [if_neg q]
      refine ⟨iva, A', ?_, h1, h2, h3⟩
      refine (E_X5_leastPlan_49 ..).trans ?_
      simp only [n0, if_true, mo_0, mg_0_0, mg_0_1, mg_0_2, mg_0_3, mg_0_4, mg_0_5, mg_0_6, mg_0_7, mg_0_8, mg_0_9, mg_0_10, mg_0_11, mo_14, Option.bind_some, ew, zcI_some, q, if_false, en, zcV_some, pk_m1]) ((1000000, []), fun i => if i < 60 then 0 else Q (13 + j) i) A0 (fun i hi => if_pos (by omega)) ao
  have ef := fold_fst (fun (a : (Int32 × List Nat) × zA) (p : List Nat) => if yVal C N.2.2.1 g w p < a.1.1 then ((yVal C N.2.2.1 g w p, p), yWp C p a.2) else a) (yGb C N.2.2.1 g w) (fun a x => by
    unfold yGb
    split <;> rfl) (yPs C) ((1000000, []), fun i => if i < 60 then 0 else Q (13 + j) i)
  rw [ef] at iv1 e1
  refine ⟨A1, _, ?_, iv1⟩
  have st : zev r i_X5_leastPlan 0 [some (.ref (r.1 + 0)), some (.int g), some (.int w), some (.ref (r.1 + 23 + 2 * j)), none, none, none, none] [] (zmk r c c c2 I J Q N A Ga Va t) = zev r i_X5_leastPlan 49 [some (.ref (r.1 + 0)), some (.int g), some (.int w), some (.ref (r.1 + 23 + 2 * j)), some (.int 1000000), some (.int (nI (yPs C).length)), none, none] [] (zmk r c c (c) (va_up I (6 + j) (nI C.2.1)) J (va_up Q (13 + j) (fun i => if i < 60 then 0 else Q (13 + j) i)) N (A0) Ga Va t) := by
    simp only [E_X5_leastPlan_0, mo_0, mg_0_0, mg_0_1, mg_0_2, mg_0_3, mg_0_4, mg_0_5, mg_0_6, mg_0_7, mg_0_8, mg_0_9, mg_0_10, mg_0_11, (hC ..).1, (hC ..).2.2.1, Option.bind_some, m0, if_false, mo_r hj, if_true, wr_renew hj (show C.2.1 ≤ 60 by omega), zcV_some, e0, cr_plans (hC ..) k, zcI_some, sPlans_eq k]
  rw [st]
  refine e1.trans ?_
  refine (E_X5_leastPlan_49 ..).trans ?_
  rw [if_neg (show ¬ (0 : Int32) < nI 0 by decide)]
theorem val_c {L L' : zA} (el : ∀ p, p < C.2.1 → L' p = L p) (g w : Int32) (p : List Nat) : yVal C L' g w p = yVal C L g w p := by
  unfold yVal
  rw [sAll_c (fun _ _ => rfl) el, sMost_c (fun _ _ => rfl) el, sAll_c (fun _ _ => rfl) el, sAll_c (fun _ _ => rfl) el]
def yBp (C : zCs) (L : zA) (g w : Int32) : Int32 × List Nat := (yPs C).foldl (yGb C L g w) (1000000, [])
theorem bp_c {L L' : zA} (el : ∀ p, p < C.2.1 → L' p = L p) (g w : Int32) : yBp C L' g w = yBp C L g w := by
  unfold yBp
  have : yGb C L' g w = yGb C L g w := by
    funext s p
    unfold yGb
    rw [val_c el]
  rw [this]
theorem gb_fold (L : zA) (g w : Int32) : ∀ (l : List (List Nat)) (a : Int32 × List Nat), (l.foldl (yGb C L g w) a = a ∧ ∀ p, p ∈ l → ¬ yVal C L g w p < a.1) ∨ ∃ p, p ∈ l ∧ l.foldl (yGb C L g w) a = (yVal C L g w p, p) ∧ yVal C L g w p < a.1 ∧ ∀ q, q ∈ l → ¬ yVal C L g w q < yVal C L g w p
  | [], a => .inl ⟨rfl, fun p hp => absurd hp (by simp)⟩
  | p :: l, a => by
    rw [List.foldl_cons]
    by_cases z : yVal C L g w p < a.1
    · have e : yGb C L g w a p = (yVal C L g w p, p) := if_pos z
      rw [e]
      rcases gb_fold L g w l (yVal C L g w p, p) with ⟨h1, h2⟩ | ⟨q, hq, h1, h2, h3⟩
      · refine .inr ⟨p, List.mem_cons_self, h1, z, fun q hq => ?_⟩
        rcases List.mem_cons.mp hq with y | y
        · subst y; exact Int32.lt_irrefl
        · exact h2 q y
      · refine .inr ⟨q, List.mem_cons_of_mem _ hq, h1, Int32.lt_trans h2 z, fun q' hq' => ?_⟩
        rcases List.mem_cons.mp hq' with y | y
        · subst y; exact Int32.lt_asymm h2
        · exact h3 q' y
    · have e : yGb C L g w a p = a := if_neg z
      rw [e]
      rcases gb_fold L g w l a with ⟨h1, h2⟩ | ⟨q, hq, h1, h2, h3⟩
      · refine .inl ⟨h1, fun q hq => ?_⟩
        rcases List.mem_cons.mp hq with y | y
        · subst y; exact z
        · exact h2 q y
      · refine .inr ⟨q, List.mem_cons_of_mem _ hq, h1, h2, fun q' hq' => ?_⟩
        rcases List.mem_cons.mp hq' with y | y
        · subst y; exact fun v => z (Int32.lt_trans v h2)
        · exact h3 q' y
/-- the best plan is a plan, and no other is better -/
theorem bp_best (k : zCk C) {L : zA} (l : zLk C L) (g w : Int32) : (yBp C L g w).2 ∈ yPs C ∧ (yBp C L g w).1 = yVal C L g w (yBp C L g w).2 ∧ ∀ q, q ∈ yPs C → ¬ yVal C L g w q < (yBp C L g w).1 := by
  unfold yBp
  rcases gb_fold L g w (yPs C) (1000000, []) with ⟨-, h2⟩ | ⟨p, hp, h1, h2, h3⟩
  · obtain ⟨l0, el⟩ := yPs_head k
    have hm : List.range C.2.1 ∈ yPs C := by rw [el]; exact List.mem_cons_self
    obtain ⟨x, hx, ex⟩ := lim_val k l hm g w
    exact absurd (by rw [ex]; exact nI_lt (b := 1000000) (by omega) (by decide)) (h2 _ hm)
  · rw [h1]
    exact ⟨hp, rfl, h3⟩
end BEST
section CALLS8
variable {r : zE} {C : zCs} {d : Nat} {M : Nat → zDk} {K : Nat → Option (Nat × (Nat → zDk))} {W Tx : Nat → Option (List Int32)} {ta : Int32} {tu tl : Int64} {Ga Va : zA} {n : Nat} {h : zH}
theorem rw_map {p : List Nat} {f : zA} {m : Nat} (hp : p.length = m) (hm : m ≤ 40) (h : ∀ i, i < m → f i = nI (p.getD i 0)) : zRw (nI m) f (some (p.map nI)) 40 := by
  refine ⟨by rw [List.length_map]; omega, by rw [List.length_map, hp], fun i hi => ?_⟩
  rw [List.length_map] at hi
  rw [h i (by omega), List.getD_eq_getElem?_getD, List.getD_eq_getElem?_getD, List.getElem?_map, List.getElem?_eq_getElem hi]
  rfl
theorem ck_plan (E : zEk r) (m0 : 0 < C.2.1) {j : Nat} (hj : j < 6) (g w : Int32) (st : zSt r C d M K W Tx ta tu tl Ga Va n h) : ∃ h', zev r i_X5_leastPlan 0 [some (.ref (r.1 + 0)), some (.int g), some (.int w), some (.ref (r.1 + 23 + 2 * j)), none, none, none, none] [] h = some (some (.int (yBp C (M d).2.1 g w).1), h') ∧ zSt r C d M K (va_up W j (some ((yBp C (M d).2.1 g w).2.map nI))) Tx ta tu tl Ga Va n h' := by
  obtain ⟨c, c2, I, J, Q, N, A, t, rfl, iv, t1, t2⟩ := st
  obtain ⟨k, hC, no, de, -⟩ := id iv
  have k2 := k.2.1
  have m1 : ¬ nI C.2.1 = 0 := nI_ne0 m0 (by omega)
  obtain ⟨A', f, e1, h1⟩ := k_least (c2 := c2) (I := I) (J := J) (Q := Q) (A := A) (Ga := Ga) (Va := Va) E k hC no hj g w m1
  rw [← bp_c (de_l de)]
  obtain ⟨b1, -, -⟩ := bp_best k no.2.1 g w
  refine ⟨_, e1, st_mk (iv_row iv hj (rw_map (yPs_mem b1).1 (by omega) h1)) t1 t2⟩
theorem ck_best (E : zEk r) (m0 : 0 < C.2.1) {j w : Nat} (hj : j < 6) (hw : w < 3) (st : zSt r C d M K W Tx ta tu tl Ga Va n h) : ∃ h', zev r i_X5_best 0 [some (.ref (r.1 + 0)), some (.int (nI w)), some (.int (nI j))] [] h = some (some (.int (yBp C (M d).2.1 0 (nI w)).1), h') ∧ zSt r C d M K (va_up W j (some ((yBp C (M d).2.1 0 (nI w)).2.map nI))) Tx ta tu tl Ga Va n h' := by
  obtain ⟨h', e1, st'⟩ := ck_plan E m0 hj 0 (nI w) st
  refine ⟨h', ?_, st'⟩
  obtain ⟨c, c2, I, J, Q, N, A, t, rfl, iv, t1, t2⟩ := st
  have e : zhk 6 (nI j) = 1 := zhk_in hj (by decide)
  have g : zhk 3 (nI w) = 1 := zhk_in hw (by decide)
  simp only [E_X5_best_0, k_when, g, i01, if_false, zcI_some, mo_0, mg_0_0, mg_0_1, mg_0_2, mg_0_3, mg_0_4, mg_0_5, mg_0_6, mg_0_7, mg_0_8, mg_0_9, mg_0_10, mg_0_11, if_true, k_rowAt, e, zcQ_ref, nI_clamp (show j < 2 ^ 31 by omega), e1]
theorem ck_fair (E : zEk r) (m0 : 0 < C.2.1) {j w : Nat} (hj : j < 6) (hw : w < 3) (st : zSt r C d M K W Tx ta tu tl Ga Va n h) : ∃ h', zev r i_X5_fair 0 [some (.ref (r.1 + 0)), some (.int (nI w)), some (.int (nI j))] [] h = some (some (.int (yBp C (M d).2.1 1 (nI w)).1), h') ∧ zSt r C d M K (va_up W j (some ((yBp C (M d).2.1 1 (nI w)).2.map nI))) Tx ta tu tl Ga Va n h' := by
  obtain ⟨h', e1, st'⟩ := ck_plan E m0 hj 1 (nI w) st
  refine ⟨h', ?_, st'⟩
  obtain ⟨c, c2, I, J, Q, N, A, t, rfl, iv, t1, t2⟩ := st
  have e : zhk 6 (nI j) = 1 := zhk_in hj (by decide)
  have g : zhk 3 (nI w) = 1 := zhk_in hw (by decide)
  simp only [E_X5_fair_0, k_when, g, i01, if_false, zcI_some, mo_0, mg_0_0, mg_0_1, mg_0_2, mg_0_3, mg_0_4, mg_0_5, mg_0_6, mg_0_7, mg_0_8, mg_0_9, mg_0_10, mg_0_11, if_true, k_rowAt, e, zcQ_ref, nI_clamp (show j < 2 ^ 31 by omega), e1]
theorem ck_mixed (E : zEk r) (m0 : 0 < C.2.1) {j : Nat} (hj : j < 6) (st : zSt r C d M K W Tx ta tu tl Ga Va n h) : ∃ h', zev r i_X5_mixed 0 [some (.ref (r.1 + 0)), some (.int (nI j))] [] h = some (some (.int (yBp C (M d).2.1 2 0).1), h') ∧ zSt r C d M K (va_up W j (some ((yBp C (M d).2.1 2 0).2.map nI))) Tx ta tu tl Ga Va n h' := by
  obtain ⟨h', e1, st'⟩ := ck_plan E m0 hj 2 0 st
  refine ⟨h', ?_, st'⟩
  obtain ⟨c, c2, I, J, Q, N, A, t, rfl, iv, t1, t2⟩ := st
  have e : zhk 6 (nI j) = 1 := zhk_in hj (by decide)
  simp only [E_X5_mixed_0, i01, if_false, zcI_some, mo_0, mg_0_0, mg_0_1, mg_0_2, mg_0_3, mg_0_4, mg_0_5, mg_0_6, mg_0_7, mg_0_8, mg_0_9, mg_0_10, mg_0_11, if_true, k_rowAt, e, zcQ_ref, nI_clamp (show j < 2 ^ 31 by omega), e1]
end CALLS8
section MID
variable {r : zE} {c0 c1 c2 : Nat} {I : Nat → Int32} {J : Nat → Int64} {Q : Nat → Nat → Int32} {N A : zBr} {Ga Va : Nat → Int32} {t : zH} {C : zCs} {c n : Nat}
theorem lg_0 {a : Int64} : lg_cmp a 0 = 0 ↔ a = 0 := by
  unfold lg_cmp
  by_cases c : a > 0
  · rw [if_pos c]
    exact ⟨fun q => absurd q (by decide), fun q => by subst q; exact absurd c Int64.lt_irrefl⟩
  · rw [if_neg c]
    by_cases c2 : a = 0
    · rw [if_pos c2]; exact ⟨fun _ => c2, fun _ => rfl⟩
    · rw [if_neg c2]; exact ⟨fun q => absurd q (by decide), fun q => absurd q c2⟩
theorem lN_z {n : Nat} (h : n < 2 ^ 63) : lN n = 0 ↔ n = 0 := pk_lEQ (b := 0) h (by decide)
theorem k_gcd (r : zE) (h : zH) (u1 u2 : Int64) : ∀ (b x y k : Nat), x < 2 ^ 62 → y < 2 ^ b → b ≤ 60 → k + 2 * b + 1 ≤ 130 → zev r i_X5_commonDivisor 9 [some (.long u1), none, some (.long u2), none, some (.long (lN x)), none, some (.long (lN y)), none, some (.int (nI k)), none, none] [] h = some (some (.long (lN (Nat.gcd y x))), h) := by
  have fin : ∀ x k : Nat, x < 2 ^ 62 → k < 130 → zev r i_X5_commonDivisor 9 [some (.long u1), none, some (.long u2), none, some (.long (lN x)), none, some (.long (lN 0)), none, some (.int (nI k)), none, none] [] h = some (some (.long (lN x)), h) := fun x k hx hk => by
    refine (E_X5_commonDivisor_9 ..).trans ?_
    rw [if_pos (show nI k < 130 from nI_lt (b := 130) hk (by decide)), if_pos (lg_0.mpr (show lN 0 = 0 from rfl))]
    have : (if (0 : Int64) < lN x then lN x else -lN x) = lN x := by
      by_cases q : x = 0
      · subst q; rfl
      · rw [if_pos (show (0 : Int64) < lN x from (pk_lLT (a := 0) (b := x) (by decide) (by omega)).mpr (by omega))]
    rw [this]
  have one : ∀ x y k : Nat, x < 2 ^ 62 → y < 2 ^ 62 → ¬ y = 0 → k < 130 → zev r i_X5_commonDivisor 9 [some (.long u1), none, some (.long u2), none, some (.long (lN x)), none, some (.long (lN y)), none, some (.int (nI k)), none, none] [] h = zev r i_X5_commonDivisor 9 [some (.long u1), none, some (.long u2), none, some (.long (lN y)), none, some (.long (lN (x % y))), none, some (.int (nI (k + 1))), none, none] [] h := fun x y k hx hy h0 hk => by
    refine (E_X5_commonDivisor_9 ..).trans ?_
    have nz : ¬ lN y = 0 := fun q => h0 ((lN_z (by omega)).mp q)
    rw [if_pos (show nI k < 130 from nI_lt (b := 130) hk (by decide)), if_neg (fun q => nz (lg_0.mp q)), if_neg nz, pk_lRem (by omega) (by omega) (by omega), nI_1]
  intro b
  induction b with
  | zero =>
    intro x y k hx hy hb hk
    have : y = 0 := by simpa using hy
    subst this
    rw [Nat.gcd_zero_left]
    exact fin x k hx (by omega)
  | succ b ih =>
    intro x y k hx hy hb hk
    have hp : (2 : Nat) ^ (b + 1) ≤ 2 ^ 61 := Nat.pow_le_pow_right (by decide) (by omega)
    by_cases h0 : y = 0
    · subst h0
      rw [Nat.gcd_zero_left]
      exact fin x k hx (by omega)
    · rw [one x y k hx (by omega) h0 (by omega), Nat.gcd_rec y x]
      have r1 : x % y < y := Nat.mod_lt _ (by omega)
      by_cases h1 : x % y = 0
      · rw [h1, Nat.gcd_zero_left]
        exact fin y (k + 1) (by omega) (by omega)
      · rw [one y (x % y) (k + 1) (by omega) (by omega) h1 (by omega), Nat.gcd_rec (x % y) y]
        have r2 : y % (x % y) < x % y := Nat.mod_lt _ (by omega)
        have r3 : y % (x % y) + x % y ≤ y := by
          have := Nat.div_add_mod y (x % y)
          have d1 : 1 ≤ y / (x % y) := (Nat.le_div_iff_mul_le (by omega)).mpr (by omega)
          have : (x % y) * 1 ≤ (x % y) * (y / (x % y)) := Nat.mul_le_mul_left _ d1
          omega
        have hpw : (2 : Nat) ^ (b + 1) = 2 * 2 ^ b := by rw [Nat.pow_succ, Nat.mul_comm]
        exact ih (x % y) (y % (x % y)) (k + 1 + 1) (by omega) (by omega) (by omega) (by omega)
def ySm (C : zCs) (L : zA) (w : Int32) (a : Int64) (p : List Nat) : Int64 := a + (sAll C (yPl p) L w).toInt64
theorem sum_lim (k : zCk C) {L : zA} (lk : zLk C L) (w : Int32) : ∀ (l : List (List Nat)) (a : Nat), (∀ p, p ∈ l → p ∈ yPs C) → ∃ s, s ≤ a + 1200 * l.length ∧ l.foldl (ySm C L w) (lN a) = lN s
  | [], a, _ => ⟨a, by omega, rfl⟩
  | p :: l, a, h => by
    obtain ⟨h1, h2⟩ := yPs_mem (h p List.mem_cons_self)
    obtain ⟨x, hx, ex⟩ := lim_sAll k lk (pl_vd (pl_hx h1) h2) w
    obtain ⟨s, hs, es⟩ := sum_lim k lk w l (a + x) fun q hq => h q (List.mem_cons_of_mem _ hq)
    refine ⟨s, by simp; omega, ?_⟩
    rw [List.foldl_cons, show ySm C L w (lN a) p = lN (a + x) by unfold ySm; rw [ex, nI_l (by omega), lN_add]]
    exact es
theorem sm_eq {L L' : zA} (el : ∀ p, p < C.2.1 → L' p = L p) (w : Int32) : ySm C L' w = ySm C L w := by
  funext a p
  unfold ySm
  rw [sAll_c (fun _ _ => rfl) el]
end MID
section CALLS9
variable {r : zE} {C : zCs} {d : Nat} {M : Nat → zDk} {K : Nat → Option (Nat × (Nat → zDk))} {W Tx : Nat → Option (List Int32)} {ta : Int32} {tu tl : Int64} {Ga Va : zA} {n : Nat} {h : zH}
theorem ck_mid (E : zEk r) (m0 : 0 < C.2.1) {w : Nat} (hw : w < 3) (st : zSt r C d M K W Tx ta tu tl Ga Va n h) : ∃ s h', s ≤ 1200 * (yPs C).length ∧ (yPs C).foldl (ySm C (M d).2.1 (nI w)) (lN 0) = lN s ∧ zev r i_X5_mid 0 [some (.ref (r.1 + 0)), some (.int (nI w)), none, none, none] [] h = some (some (.int 1), h') ∧ zSt r C d M K W Tx ta (lN s / lN (Nat.gcd (yPs C).length s)) (lN (yPs C).length / lN (Nat.gcd (yPs C).length s)) Ga Va n h' := by
  obtain ⟨c, c2, I, J, Q, N, A, t, rfl, iv, t1, t2⟩ := st
  obtain ⟨k, hC, no, de, -⟩ := id iv
  have k2 := k.2.1
  have m1 : ¬ nI C.2.1 = 0 := nI_ne0 m0 (by omega)
  have g : zhk 3 (nI w) = 1 := zhk_in hw (by decide)
  have lp := (yPs_len k).2
  obtain ⟨l0, el⟩ := yPs_head k
  have lpos : 0 < (yPs C).length := by rw [el]; simp
  rw [← sm_eq (de_l de)]
  obtain ⟨s, hs, es⟩ := sum_lim k no.2.1 (nI w) (yPs C) 0 fun _ h => h
  rw [Nat.zero_add] at hs
  have gpos : 0 < Nat.gcd (yPs C).length s := Nat.gcd_pos_of_pos_left _ lpos
  have gle : Nat.gcd (yPs C).length s ≤ 117649 := Nat.le_trans (Nat.gcd_le_left _ lpos) lp
  obtain ⟨A0, e0, ao⟩ := a_begin (c2 := c2) (I := I) (J := J) (Q := Q) (A := A) (Ga := Ga) (Va := Va) k hC no
  obtain ⟨A1, e1, -⟩ := c_all k N.2.2.1 (fun n (a : Int64) A => zev r i_X5_mid 37 [some (.ref (r.1 + 0)), some (.int (nI w)), some (.long a), none, some (.int (nI n))] [] (zmk r c c (c) I J Q N A Ga Va t)) (ySm C N.2.2.1 (nI w)) (fun _ => True) (fun n a A p _ hn hp ao => by
    have ax := aBx (r := r) (c0 := c) (c1 := c) (I := I) (J := J) (Q := Q) (N := N) (Ga := Ga) (Va := Va) hC
    have ea := b_all ax k E (B := A) (lk_c ao.2.2.1 no.2.1) ao.1 (nI w)
    rw [sAll_c (hx_pl ao.2.1) ao.2.2.1] at ea
    obtain ⟨A', en, h1, h2, h3⟩ := a_next (c0 := c) (c1 := c) (I := I) (J := J) (Q := Q) (N := N) (A := A) (Ga := Ga) (Va := Va) k hC ao
    refine ⟨trivial, A', ?_, h1, h2, h3⟩
    refine (E_X5_mid_37 ..).trans ?_
    simp only [if_pos (show (0 : Int32) < nI (n + 1) from nI_lt (a := 0) (by omega) (by omega)), mo_0, mg_0_0, mg_0_1, mg_0_2, mg_0_3, mg_0_4, mg_0_5, mg_0_6, mg_0_7, mg_0_8, mg_0_9, mg_0_10, mg_0_11, mo_14, Option.bind_some, if_true, ea, zcI_some, en, zcV_some, pk_m1]
    rfl) 0 A0 trivial ao
  rw [show (0 : Int64) = lN 0 from rfl, es] at e1
  have fin : zev r i_X5_mid 37 [some (.ref (r.1 + 0)), some (.int (nI w)), some (.long (lN s)), none, some (.int (nI 0))] [] (zmk r c c (c) I J Q N (A1) Ga Va t) = some (some (.int 1), (zmk r c c (c) I (va_up (va_up J 0 (lN s / lN (Nat.gcd (yPs C).length s))) 1 (lN (yPs C).length / lN (Nat.gcd (yPs C).length s))) Q N (A1) Ga Va t)) := by
    refine (E_X5_mid_37 ..).trans ?_
    have eg := k_gcd r (zmk r c c (c) I J Q N (A1) Ga Va t) (lN s) (lN (yPs C).length) 17 s (yPs C).length 0 (by omega) (by omega) (by decide) (by decide)
    have nz : ¬ lN (Nat.gcd (yPs C).length s) = 0 := fun q => by have := (lN_z (by omega)).mp q; omega
    have n1 : ¬ lN (Nat.gcd (yPs C).length s) < 1 := fun q => by have := (pk_lLT (b := 1) (by omega) (by decide)).mp q; omega
    simp only [if_neg (show ¬ (0 : Int32) < nI 0 by decide), mo_0, mg_0_0, mg_0_1, mg_0_2, mg_0_3, mg_0_4, mg_0_5, mg_0_6, mg_0_7, mg_0_8, mg_0_9, mg_0_10, mg_0_11, (hC ..).1, Option.bind_some, if_true, cr_plans (hC ..) k, sPlans_eq k, zcI_some, nI_l (show (yPs C).length < 2 ^ 31 by omega), E_X5_tellMean_0, E_X5_commonDivisor_0]
    rw [show (0 : Int32) = nI 0 from rfl, eg]
    simp only [zcL_some, n1, if_false, nz, mp_0_8, mp_0_9, Option.bind_some, zcV_some]
  refine ⟨s, _, hs, es, ?_, st_mk (c2 := c) (A := A1) (iv_ratio _ _ iv) t1 t2⟩
  · simp only [E_X5_mid_0, k_when, g, i01, if_false, zcI_some, mo_0, mg_0_0, mg_0_1, mg_0_2, mg_0_3, mg_0_4, mg_0_5, mg_0_6, mg_0_7, mg_0_8, mg_0_9, mg_0_10, mg_0_11, (hC ..).1, (hC ..).2.2.1, Option.bind_some, m1, if_true, e0, zcV_some, cr_plans (hC ..) k, sPlans_eq k]
    rw [show (0 : Int64) = lN 0 from rfl]
    exact e1.trans fin
end CALLS9
section FITS
variable {r : zE} {c0 c1 c2 : Nat} {I : Nat → Int32} {J : Nat → Int64} {Q : Nat → Nat → Int32} {N A : zBr} {Ga Va : Nat → Int32} {t : zH} {C : zCs} {c n : Nat}
def yFw (C : zCs) (L f : zA) (p : List Nat) (w b : Nat) : Bool := (List.range b).all fun q => !decide (f (2 * q) = nI w) || decide (sAll C (yPl p) L (nI w) = f (2 * q + 1))
def yFt (C : zCs) (L f : zA) (p : List Nat) (b : Nat) : Bool := (List.range b).all fun q => decide (sAll C (yPl p) L (f (2 * q)) = f (2 * q + 1))
def yWs (f : zA) (b : Nat) : Bool := (List.range b).all fun q => decide (zhk 3 (f (2 * q)) = 1)
theorem all_succ (g : Nat → Bool) (b : Nat) : (List.range (b + 1)).all g = ((List.range b).all g && g b) := by
  rw [List.range_succ, List.all_append]
  simp
theorem all_true {g : Nat → Bool} {b : Nat} : (List.range b).all g = true ↔ ∀ q, q < b → g q = true := by
  rw [List.all_eq_true]
  simp
theorem all_false {g : Nat → Bool} {q b : Nat} (h : q < b) (e : g q = false) : (List.range b).all g = false := by
  cases h2 : (List.range b).all g with
  | false => rfl
  | true => rw [all_true.mp h2 q h] at e; exact absurd e (by decide)
theorem fw_ft {L f : zA} {p : List Nat} {b : Nat} (hw : yWs f b = true) : ((yFw C L f p 0 b && yFw C L f p 1 b) && yFw C L f p 2 b) = yFt C L f p b := by
  rw [Bool.eq_iff_iff]
  simp only [Bool.and_eq_true]
  unfold yFw yFt
  unfold yWs at hw
  rw [all_true, all_true, all_true, all_true]
  have hw := all_true.mp hw
  constructor
  · rintro ⟨⟨h0, h1⟩, h2⟩ q hq
    have z := hw q hq
    simp only [decide_eq_true_eq] at z
    rcases zhk_cases 3 (by decide) (f (2 * q)) with e | ⟨-, w, w3, e⟩
    · rw [e] at z; exact absurd z (by decide)
    · have a0 := h0 q hq
      have a1 := h1 q hq
      have a2 := h2 q hq
      simp only [Bool.or_eq_true, Bool.not_eq_true', decide_eq_false_iff_not, decide_eq_true_eq] at a0 a1 a2 ⊢
      rw [e] at a0 a1 a2 ⊢
      match w, w3 with
      | 0, _ => exact a0.resolve_left fun y => y rfl
      | 1, _ => exact a1.resolve_left fun y => y rfl
      | 2, _ => exact a2.resolve_left fun y => y rfl
      | w + 3, h => exact absurd h (by omega)
  · intro h
    have key : ∀ w : Nat, ∀ q, q < b → (!decide (f (2 * q) = nI w) || decide (sAll C (yPl p) L (nI w) = f (2 * q + 1))) = true := fun w q hq => by
      have z := h q hq
      simp only [Bool.or_eq_true, Bool.not_eq_true', decide_eq_false_iff_not, decide_eq_true_eq] at z ⊢
      by_cases y : f (2 * q) = nI w
      · right; rw [← y]; exact z
      · left; exact y
    exact ⟨⟨key 0, key 1⟩, key 2⟩
theorem nI_2 (q : Nat) : nI (2 * q) + 2 = nI (2 * (q + 1)) := nI_add (2 * q) 2
theorem k_fitw (E : zEk r) (k : zCk C) (hC : zCt r t c C) {L : zA} (lk : zLk C L) {p : List Nat} (ao : yAo C L A p) {j b : Nat} (hj : j < 6) (hb : 2 * b ≤ 40) (hs : I (6 + j) = nI (2 * b)) (w : Nat) : zev r i_X5_fitsBookBy 0 [some (.ref (r.1 + 0)), some (.int (nI w)), some (.ref (r.1 + 23 + 2 * j)), none, none] [] (zmk r c0 c1 (c) I J Q N A Ga Va t) = some (some (.int (if yFw C L (Q (13 + j)) p w b = true then 1 else 0)), (zmk r c0 c1 (c) I J Q N A Ga Va t)) := by
  have ax := aBx (r := r) (c0 := c0) (c1 := c1) (I := I) (J := J) (Q := Q) (N := N) (Ga := Ga) (Va := Va) hC
  have ea := b_all ax k E (B := A) (lk_c ao.2.2.1 lk) ao.1 (nI w)
  rw [sAll_c (hx_pl ao.2.1) ao.2.2.1] at ea
  obtain ⟨y, hy, ey⟩ := lim_sAll k lk (pl_vd ao.2.1 ao.2.2.2) (nI w)
  rw [sAll_c (hx_pl ao.2.1) (fun _ _ => rfl)] at ey
  have n9 : ¬ sAll C (yPl p) L (nI w) = -9 := by rw [ey]; exact nI_n9 (by omega)
  rw [E_X5_fitsBookBy_0]
  refine zloopS (fun q (m : Int32) => (m = -9 ∨ m = sAll C (yPl p) L (nI w)) ∧ yFw C L (Q (13 + j)) p w q = true) (fun e => e = some (some (.int (if yFw C L (Q (13 + j)) p w b = true then 1 else 0)), (zmk r c0 c1 (c) I J Q N A Ga Va t))) (fun q (m : Int32) => zev r i_X5_fitsBookBy 6 [some (.ref (r.1 + 0)), some (.int (nI w)), some (.ref (r.1 + 23 + 2 * j)), some (.int m), some (.int (nI (2 * q)))] [] (zmk r c0 c1 (c) I J Q N A Ga Va t)) b (fun q m hq P => ?_) (fun m P => ?_) (-9) ⟨.inl rfl, by simp [yFw]⟩
  · have lt : nI (2 * q) < nI (2 * b) := nI_lt (by omega) (by omega)
    have g0 := wr_get (r := r) (c0 := c0) (c1 := c1) (c2 := c) (I := I) (J := J) (Q := Q) (N := N) (A := A) (Ga := Ga) (Va := Va) (t := t) hj hs (by omega) (nI (2 * q))
    have g1 := wr_get (r := r) (c0 := c0) (c1 := c1) (c2 := c) (I := I) (J := J) (Q := Q) (N := N) (A := A) (Ga := Ga) (Va := Va) (t := t) hj hs (by omega) (nI (2 * q + 1))
    rw [zhk_in (show 2 * q < 2 * b by omega) (by omega), if_neg i01, nI_clamp (by omega)] at g0
    rw [zhk_in (show 2 * q + 1 < 2 * b by omega) (by omega), if_neg i01, nI_clamp (by omega)] at g1
    have fin : ∀ v, yFw C L (Q (13 + j)) p w b = v → v = false → some (some (Value.int 0), (zmk r c0 c1 (c) I J Q N A Ga Va t)) = some (some (.int (if yFw C L (Q (13 + j)) p w b = true then 1 else 0)), (zmk r c0 c1 (c) I J Q N A Ga Va t)) := fun v e1 e2 => by rw [e1, e2]; rfl
    by_cases y1 : Q (13 + j) (2 * q) = nI w
    · by_cases y2 : sAll C (yPl p) L (nI w) = Q (13 + j) (2 * q + 1)
      · refine .inr ⟨sAll C (yPl p) L (nI w), ?_, .inr rfl, ?_⟩
        · refine (E_X5_fitsBookBy_6 ..).trans ?_
          simp only [mgs_r hj, hs, Option.bind_some, lt, if_true, mo_r hj, g0, g1, y1, zcI_some, nI_2, nI_1]
          rcases P.1 with z | z
          · rw [if_pos z]
            simp only [mo_0, mg_0_0, mg_0_1, mg_0_2, mg_0_3, mg_0_4, mg_0_5, mg_0_6, mg_0_7, mg_0_8, mg_0_9, mg_0_10, mg_0_11, mo_14, Option.bind_some, if_true, ea, zcI_some, mo_r hj, g1, y2]
          · rw [if_neg (by rw [z]; exact n9), z, if_pos y2]
        · unfold yFw
          rw [all_succ]
          simp only [Bool.and_eq_true]
          refine ⟨P.2, ?_⟩
          simp [y2]
      · left
        have ff : yFw C L (Q (13 + j)) p w b = false := all_false hq (by simp [y1, y2])
        rw [ff]
        refine (E_X5_fitsBookBy_6 ..).trans ?_
        simp only [mgs_r hj, hs, Option.bind_some, lt, if_true, mo_r hj, g0, g1, y1, zcI_some, nI_2, nI_1]
        rcases P.1 with z | z
        · rw [if_pos z]
          simp only [mo_0, mg_0_0, mg_0_1, mg_0_2, mg_0_3, mg_0_4, mg_0_5, mg_0_6, mg_0_7, mg_0_8, mg_0_9, mg_0_10, mg_0_11, mo_14, Option.bind_some, if_true, ea, zcI_some, mo_r hj, g1, y2, if_false]
          rfl
        · rw [if_neg (by rw [z]; exact n9), z, if_neg y2]
          rfl
    · refine .inr ⟨m, ?_, P.1, ?_⟩
      · refine (E_X5_fitsBookBy_6 ..).trans ?_
        simp only [mgs_r hj, hs, Option.bind_some, lt, if_true, mo_r hj, g0, y1, if_false, zcI_some, nI_2]
      · unfold yFw
        rw [all_succ]
        simp only [Bool.and_eq_true]
        refine ⟨P.2, ?_⟩
        simp [y1]
  · rw [P.2]
    refine (E_X5_fitsBookBy_6 ..).trans ?_
    simp only [mgs_r hj, hs, Option.bind_some, if_neg (nI_nlt (Nat.le_refl (2 * b)) (show 2 * b < 2 ^ 31 by omega)), if_true]
theorem k_fit (E : zEk r) (k : zCk C) (hC : zCt r t c C) {L : zA} (lk : zLk C L) {p : List Nat} (ao : yAo C L A p) {j b : Nat} (hj : j < 6) (hb : 2 * b ≤ 40) (hs : I (6 + j) = nI (2 * b)) (hw : yWs (Q (13 + j)) b = true) : zev r i_X5_fitsBook 0 [some (.ref (r.1 + 0)), some (.ref (r.1 + 23 + 2 * j)), none] [] (zmk r c0 c1 (c) I J Q N A Ga Va t) = some (some (.int (if yFt C L (Q (13 + j)) p b = true then 1 else 0)), (zmk r c0 c1 (c) I J Q N A Ga Va t)) := by
  have f0 := k_fitw (c0 := c0) (c1 := c1) (J := J) (Q := Q) (N := N) (Ga := Ga) (Va := Va) E k hC lk ao hj hb hs 0
  have f1 := k_fitw (c0 := c0) (c1 := c1) (J := J) (Q := Q) (N := N) (Ga := Ga) (Va := Va) E k hC lk ao hj hb hs 1
  have f2 := k_fitw (c0 := c0) (c1 := c1) (J := J) (Q := Q) (N := N) (Ga := Ga) (Va := Va) E k hC lk ao hj hb hs 2
  rw [E_X5_fitsBook_0, ← fw_ft hw]
  refine (E_X5_fitsBook_2 ..).trans ?_
  rw [show nI 0 = (0 : Int32) from rfl] at f0
  rw [show nI 1 = (1 : Int32) from rfl] at f1
  rw [show nI 2 = (2 : Int32) from rfl] at f2
  simp only [show ¬ (2 : Int32) < 0 by decide, if_false, mo_0, mg_0_0, mg_0_1, mg_0_2, mg_0_3, mg_0_4, mg_0_5, mg_0_6, mg_0_7, mg_0_8, mg_0_9, mg_0_10, mg_0_11, if_true, f0, zcI_some]
  cases e0 : yFw C L (Q (13 + j)) p 0 b with
  | false => rfl
  | true =>
    simp only [if_true, i01, if_false, Bool.true_and]
    refine (E_X5_fitsBook_2 ..).trans ?_
    simp only [show (0 : Int32) + 1 = 1 by decide, show ¬ (2 : Int32) < 1 by decide, if_false, mo_0, mg_0_0, mg_0_1, mg_0_2, mg_0_3, mg_0_4, mg_0_5, mg_0_6, mg_0_7, mg_0_8, mg_0_9, mg_0_10, mg_0_11, if_true, f1, zcI_some]
    cases e1 : yFw C L (Q (13 + j)) p 1 b with
    | false => rfl
    | true =>
      simp only [if_true, i01, if_false, Bool.true_and]
      refine (E_X5_fitsBook_2 ..).trans ?_
      simp only [show (1 : Int32) + 1 = 2 by decide, show ¬ (2 : Int32) < 2 by decide, if_false, mo_0, mg_0_0, mg_0_1, mg_0_2, mg_0_3, mg_0_4, mg_0_5, mg_0_6, mg_0_7, mg_0_8, mg_0_9, mg_0_10, mg_0_11, if_true, f2, zcI_some]
      cases e2 : yFw C L (Q (13 + j)) p 2 b with
      | false => rfl
      | true =>
        simp only [if_true, i01, if_false]
        refine (E_X5_fitsBook_2 ..).trans ?_
        simp only [show (2 : Int32) < 2 + 1 by decide, if_true]
def yGf (C : zCs) (L f : zA) (b : Nat) (a : Int32 × Int32) (p : List Nat) : Int32 × Int32 := if yFt C L f p b = true then (a.1 + 1, if a.1 = 0 then nI (p.getD 0 0) else if a.2 = nI (p.getD 0 0) then nI (p.getD 0 0) else -9) else a
theorem k_fits (E : zEk r) (k : zCk C) (hC : zCt r t c C) (no : zNo C N) (hM : 0 < C.2.1) {j b : Nat} (hj : j < 6) (hb : 2 * b ≤ 40) (hs : I (6 + j) = nI (2 * b)) (hw : yWs (Q (13 + j)) b = true) : ∃ A', zev r i_X5_countFitting 0 [some (.ref (r.1 + 0)), some (.ref (r.1 + 23 + 2 * j)), none, none, none, none] [] (zmk r c c c2 I J Q N A Ga Va t) = some (none, (zmk r c c (c) (va_up I 0 ((yPs C).foldl (yGf C N.2.2.1 (Q (13 + j)) b) (0, -9)).2) (va_up (va_up J 0 ((yPs C).foldl (yGf C N.2.2.1 (Q (13 + j)) b) (0, -9)).1.toInt64) 1 1) Q N (A') Ga Va t)) := by
  obtain ⟨A0, e0, ao⟩ := a_begin (c2 := c2) (I := I) (J := J) (Q := Q) (A := A) (Ga := Ga) (Va := Va) k hC no
  have lp := (yPs_len k).2
  obtain ⟨A1, e1, -⟩ := c_all k N.2.2.1 (fun n (a : Int32 × Int32) A => zev r i_X5_countFitting 18 [some (.ref (r.1 + 0)), some (.ref (r.1 + 23 + 2 * j)), some (.int a.1), some (.int a.2), some (.int (nI n)), none] [] (zmk r c c (c) I J Q N A Ga Va t)) (yGf C N.2.2.1 (Q (13 + j)) b) (fun _ => True) (fun n a A p _ hn hp ao => by
    have ef := k_fit (c0 := c) (c1 := c) (J := J) (N := N) (Ga := Ga) (Va := Va) E k hC no.2.1 ao hj hb hs hw
    obtain ⟨A', en, h1, h2, h3⟩ := a_next (c0 := c) (c1 := c) (I := I) (J := J) (Q := Q) (N := N) (A := A) (Ga := Ga) (Va := Va) k hC ao
    have n0 : (0 : Int32) < nI (n + 1) := nI_lt (a := 0) (by omega) (by omega)
    refine ⟨trivial, A', ?_, h1, h2, h3⟩
    refine (E_X5_countFitting_18 ..).trans ?_
    unfold yGf
    have z0 : zaI r (zmk r c c (c) I J Q N A Ga Va t) (r.1 + 15) 0 = some (nI (p.getD 0 0)) := (ma_15 (j := 0) (by decide)).trans (by rw [ao.2.1.2 0 hM])
    simp only [n0, if_true, mo_0, mg_0_0, mg_0_1, mg_0_2, mg_0_3, mg_0_4, mg_0_5, mg_0_6, mg_0_7, mg_0_8, mg_0_9, mg_0_10, mg_0_11, ef, zcI_some]
    by_cases y : yFt C N.2.2.1 (Q (13 + j)) p b = true
    · simp only [y, if_true, i01, if_false, mo_0, mg_0_0, mg_0_1, mg_0_2, mg_0_3, mg_0_4, mg_0_5, mg_0_6, mg_0_7, mg_0_8, mg_0_9, mg_0_10, mg_0_11, mg_14_1, mo_14, z0, Option.bind_some, en, zcV_some, pk_m1]
      by_cases y1 : a.1 = 0
      · simp only [y1, if_true]
      · by_cases y2 : a.2 = nI (p.getD 0 0)
        · simp only [y1, y2, if_true, if_false]
        · simp only [y1, y2, if_false]
    · simp only [y, if_false, if_true, mo_0, mg_0_0, mg_0_1, mg_0_2, mg_0_3, mg_0_4, mg_0_5, mg_0_6, mg_0_7, mg_0_8, mg_0_9, mg_0_10, mg_0_11, mo_14, Option.bind_some, en, zcV_some, pk_m1, Bool.false_eq_true]) (0, -9) A0 trivial ao
  refine ⟨A1, ?_⟩
  simp only [E_X5_countFitting_0, mo_0, mg_0_0, mg_0_1, mg_0_2, mg_0_3, mg_0_4, mg_0_5, mg_0_6, mg_0_7, mg_0_8, mg_0_9, mg_0_10, mg_0_11, (hC ..).1, Option.bind_some, if_true, e0, zcV_some, cr_plans (hC ..) k, sPlans_eq k, zcI_some]
  refine e1.trans ?_
  refine (E_X5_countFitting_18 ..).trans ?_
  simp only [if_neg (show ¬ (0 : Int32) < nI 0 by decide), mp_0_8, mp_0_9, Option.bind_some, mo_0, mg_0_0, mg_0_1, mg_0_2, mg_0_3, mg_0_4, mg_0_5, mg_0_6, mg_0_7, mg_0_8, mg_0_9, mg_0_10, mg_0_11, if_true, k_tell, zcV_some]
theorem gf_c {L L' f f' : zA} {b : Nat} (el : ∀ p, p < C.2.1 → L' p = L p) (ef : ∀ i, i < 2 * b → f' i = f i) : yGf C L' f' b = yGf C L f b := by
  funext a p
  have : yFt C L' f' p b = yFt C L f p b := by
    unfold yFt
    rw [Bool.eq_iff_iff, all_true, all_true]
    constructor
    · intro h q hq
      have := h q hq
      rwa [sAll_c (fun _ _ => rfl) el, ef _ (by omega), ef _ (by omega)] at this
    · intro h q hq
      have := h q hq
      rwa [sAll_c (fun _ _ => rfl) el, ef _ (by omega), ef _ (by omega)]
  unfold yGf
  rw [this]
theorem ws_c {f f' : zA} {b : Nat} (ef : ∀ i, i < 2 * b → f' i = f i) (h : yWs f b = true) : yWs f' b = true := by
  unfold yWs at h ⊢
  rw [all_true] at h ⊢
  intro q hq
  rw [ef _ (by omega)]
  exact h q hq
end FITS
section CALLS10
variable {r : zE} {C : zCs} {d : Nat} {M : Nat → zDk} {K : Nat → Option (Nat × (Nat → zDk))} {W Tx : Nat → Option (List Int32)} {ta : Int32} {tu tl : Int64} {Ga Va : zA} {n : Nat} {h : zH}
theorem ck_fits (E : zEk r) (m0 : 0 < C.2.1) {j b : Nat} {l : List Int32} (hj : j < 6) (hW : W j = some l) (hl : l.length = 2 * b) (hw : yWs (fun i => l.getD i 0) b = true) (st : zSt r C d M K W Tx ta tu tl Ga Va n h) : ∃ h', zev r i_X5_fits 0 [some (.ref (r.1 + 0)), some (.int (nI j)), none, none] [] h = some (some (.int 1), h') ∧ zSt r C d M K W Tx (((yPs C).foldl (yGf C (M d).2.1 (fun i => l.getD i 0) b) (0, -9)).2) (((yPs C).foldl (yGf C (M d).2.1 (fun i => l.getD i 0) b) (0, -9)).1.toInt64) (1) Ga Va n h' := by
  obtain ⟨c, c2, I, J, Q, N, A, t, rfl, iv, t1, t2⟩ := st
  obtain ⟨k, hC, no, de, -⟩ := id iv
  have k2 := k.2.1
  have m1 : ¬ nI C.2.1 = 0 := nI_ne0 m0 (by omega)
  obtain ⟨hm, s1, s3⟩ := rw_some (iv.2.2.2.2.2.2.2.1 j hj) hW
  have e : zhk 6 (nI j) = 1 := zhk_in hj (by decide)
  have cj := nI_clamp (show j < 2 ^ 31 by omega)
  rw [hl] at s1 hm s3
  have nm1 := nI_m1 (show 2 * b < 2 ^ 31 by omega)
  have er0 : nI (2 * b) - nI (2 * b) / 2 * 2 = 0 := by
    rw [show nI (2 * b) - nI (2 * b) / 2 * 2 = nI (2 * b % 2) from pk_rem (d := 2) (by omega) (by decide) (by decide), show 2 * b % 2 = 0 by omega]; rfl
  have hw := ws_c s3 hw
  rw [← gf_c (de_l de) s3]
  obtain ⟨A', ec⟩ := k_fits (c2 := c2) (J := J) (A := A) (Ga := Ga) (Va := Va) E k hC no m0 hj hm s1 hw
  generalize (yPs C).foldl (yGf C N.2.2.1 (Q (13 + j)) b) (0, -9) = T at ec
  have g0 : ∀ q, q < b → zev r i_X4_get 0 [some (.ref (r.1 + 23 + 2 * j)), some (.int (nI (2 * q)))] [] (zmk r c c c2 I J Q N A Ga Va t) = some (some (.int (Q (13 + j) (2 * q))), (zmk r c c c2 I J Q N A Ga Va t)) := fun q hq => by
    have g0 := wr_get (r := r) (c0 := c) (c1 := c) (c2 := c2) (I := I) (J := J) (Q := Q) (N := N) (A := A) (Ga := Ga) (Va := Va) (t := t) hj s1 (by omega) (nI (2 * q))
    rwa [zhk_in (show 2 * q < 2 * b by omega) (by omega), if_neg i01, nI_clamp (by omega)] at g0
  have start : zev r i_X5_fits 0 [some (.ref (r.1 + 0)), some (.int (nI j)), none, none] [] (zmk r c c c2 I J Q N A Ga Va t) = zev r i_X5_fits 55 [some (.ref (r.1 + 0)), some (.int (nI j)), some (.ref (r.1 + 23 + 2 * j)), some (.int (nI (2 * 0)))] [] (zmk r c c c2 I J Q N A Ga Va t) := by
    simp only [E_X5_fits_0, mo_0, mg_0_0, mg_0_1, mg_0_2, mg_0_3, mg_0_4, mg_0_5, mg_0_6, mg_0_7, mg_0_8, mg_0_9, mg_0_10, mg_0_11, if_true, k_rowAt, e, i01, if_false, zcQ_ref, cj, (hC ..).2.2.1, Option.bind_some, m1, mo_r hj, wr_miss hj, s1, nm1, zcI_some, mgs_r hj, show ¬ (2 : Int32) = 0 by decide, er0]
    rfl
  refine ⟨(zmk r c c (c) (va_up I 0 T.2) (va_up (va_up J 0 T.1.toInt64) 1 1) Q N (A') Ga Va t), ?_, st_mk (iv_told T.2 (iv_ratio _ _ iv)) t1 t2⟩
  rw [start]
  refine zloop (fun q (_ : Unit) => zev r i_X5_fits 55 [some (.ref (r.1 + 0)), some (.int (nI j)), some (.ref (r.1 + 23 + 2 * j)), some (.int (nI (2 * q)))] [] (zmk r c c c2 I J Q N A Ga Va t)) (fun _ => some (some (.int 1), (zmk r c c (c) (va_up I 0 T.2) (va_up (va_up J 0 T.1.toInt64) 1 1) Q N (A') Ga Va t))) (fun _ _ => ()) b (fun q _ hq => ?_) (fun _ => ?_) ()
  · have lt : nI (2 * q) < nI (2 * b) := nI_lt (by omega) (by omega)
    have z : zhk 3 (Q (13 + j) (2 * q)) = 1 := by simpa using all_true.mp hw q hq
    refine (E_X5_fits_55 ..).trans ?_
    simp only [mgs_r hj, s1, Option.bind_some, lt, if_true, mo_r hj, g0 q hq, zcI_some, k_when, z, i01, if_false, nI_2]
  · refine (E_X5_fits_55 ..).trans ?_
    simp only [mgs_r hj, s1, Option.bind_some, if_neg (nI_nlt (Nat.le_refl (2 * b)) (show 2 * b < 2 ^ 31 by omega)), mo_0, mg_0_0, mg_0_1, mg_0_2, mg_0_3, mg_0_4, mg_0_5, mg_0_6, mg_0_7, mg_0_8, mg_0_9, mg_0_10, mg_0_11, if_true, ec, zcV_some]
end CALLS10
section JUDGE
variable {r : zE} {c0 c1 c2 : Nat} {I : Nat → Int32} {J : Nat → Int64} {Q : Nat → Nat → Int32} {N A : zBr} {Ga Va : Nat → Int32} {t : zH} {C : zCs} {c n : Nat}
def yGd (C : zCs) (f : zA) : Prop := (∀ m, m < C.2.1 → ∃ a, a < C.1 ∧ f m = nI a) ∧ ∀ m k, m < C.2.1 → k < C.2.1 → f m = f k → m = k
theorem k_hangBy (k : zCk C) (hC : zCt r t c C) {j : Nat} (hj : j < 6) (hs : I (6 + j) = nI C.2.1) : (yGd C (Q (13 + j)) ∧ ∃ A' : zBr, zev r i_X0_hangBy 0 [some (.ref (r.1 + 14)), some (.ref (r.1 + 23 + 2 * j)), none, none] [] (zmk r c0 c1 (c) I J Q N A Ga Va t) = some (some (.int 1), (zmk r c0 c1 (c) I J Q N (A') Ga Va t)) ∧ zCG C A'.1 A'.2.1 ∧ (∀ m, m < C.2.1 → A'.1 m = Q (13 + j) m) ∧ A'.2.2.1 = A.2.2.1) ∨ (¬ yGd C (Q (13 + j)) ∧ ∃ A' : zBr, zev r i_X0_hangBy 0 [some (.ref (r.1 + 14)), some (.ref (r.1 + 23 + 2 * j)), none, none] [] (zmk r c0 c1 (c) I J Q N A Ga Va t) = some (some (.int 0), (zmk r c0 c1 (c) I J Q N (A') Ga Va t))) := by
  have k1 := k.1
  have k2 := k.2.1
  have ax := aBx (r := r) (c0 := c0) (c1 := c1) (I := I) (J := J) (Q := Q) (N := N) (Ga := Ga) (Va := Va) hC
  obtain ⟨H0, G0, e0, d0, cg0⟩ := b_down ax k (B := A)
  have st : zev r i_X0_hangBy 0 [some (.ref (r.1 + 14)), some (.ref (r.1 + 23 + 2 * j)), none, none] [] (zmk r c0 c1 (c) I J Q N A Ga Va t) = zev r i_X0_hangBy 6 [some (.ref (r.1 + 14)), some (.ref (r.1 + 23 + 2 * j)), some (.int (nI 0)), none] [] (zmk r c0 c1 (c) I J Q N ((H0, G0, A.2.2.1, A.2.2.2)) Ga Va t) := by
    simp only [E_X0_hangBy_0, mo_14, if_true, e0, zcV_some]
    rfl
  rw [st]
  refine zloopS (fun q (s : zA × zA) => zCG C s.1 s.2 ∧ (∀ m, m < q → s.1 m = Q (13 + j) m ∧ ∃ a, a < C.1 ∧ Q (13 + j) m = nI a) ∧ (∀ m, q ≤ m → m < C.2.1 → s.1 m = -9)) (fun e => (yGd C (Q (13 + j)) ∧ ∃ A' : zBr, e = some (some (.int 1), (zmk r c0 c1 (c) I J Q N (A') Ga Va t)) ∧ zCG C A'.1 A'.2.1 ∧ (∀ m, m < C.2.1 → A'.1 m = Q (13 + j) m) ∧ A'.2.2.1 = A.2.2.1) ∨ (¬ yGd C (Q (13 + j)) ∧ ∃ A' : zBr, e = some (some (.int 0), (zmk r c0 c1 (c) I J Q N (A') Ga Va t)))) (fun q (s : zA × zA) => zev r i_X0_hangBy 6 [some (.ref (r.1 + 14)), some (.ref (r.1 + 23 + 2 * j)), some (.int (nI q)), none] [] (zmk r c0 c1 (c) I J Q N ((s.1, s.2, A.2.2.1, A.2.2.2)) Ga Va t)) C.2.1 (fun q s hq P => ?_) (fun s P => ?_) (H0, G0) ⟨cg0, fun m hm => absurd hm (Nat.not_lt_zero m), fun m _ hm => d0 m hm⟩
  · obtain ⟨P1, P2, P3⟩ := P
    have gt := wr_get (r := r) (c0 := c0) (c1 := c1) (c2 := c) (I := I) (J := J) (Q := Q) (N := N) (A := (s.1, s.2, A.2.2.1, A.2.2.2)) (Ga := Ga) (Va := Va) (t := t) hj hs (by omega) (nI q)
    rw [zhk_in hq (by omega), if_neg i01, nI_clamp (by omega)] at gt
    have fr := b_free ax k (B := (s.1, s.2, A.2.2.1, A.2.2.2)) (Q (13 + j) q)
    have bad : (if zhk C.1 (Q (13 + j) q) = 0 then (0 : Int32) else if s.2 (Q (13 + j) q).toNatClampNeg = -9 then 1 else 0) = 0 → zev r i_X0_hangBy 6 [some (.ref (r.1 + 14)), some (.ref (r.1 + 23 + 2 * j)), some (.int (nI q)), none] [] (zmk r c0 c1 (c) I J Q N ((s.1, s.2, A.2.2.1, A.2.2.2)) Ga Va t) = some (some (.int 0), (zmk r c0 c1 (c) I J Q N ((s.1, s.2, A.2.2.1, A.2.2.2)) Ga Va t)) := fun z => by
      dsimp only at fr
      rw [z] at fr
      refine (E_X0_hangBy_6 ..).trans ?_
      simp only [mg_14_0, (hC ..).2.2.1, Option.bind_some, if_pos (nI_lt6 k hq), mo_r hj, if_true, gt, zcI_some, mo_14, fr]
    rcases zhk_cases C.1 (by omega) (Q (13 + j) q) with e | ⟨e, a, ha, ea⟩
    · left; right
      refine ⟨fun g => ?_, _, bad (by rw [if_pos e])⟩
      obtain ⟨a, ha, ea⟩ := g.1 q hq
      rw [ea, zhk_in ha (by omega)] at e
      exact i01 e
    · by_cases w : s.2 a = -9
      · right
        obtain ⟨G', e1, cg1⟩ := b_move ax k (B := (s.1, s.2, A.2.2.1, A.2.2.2)) P1 hq (h := nI a) (.inl (.inr ⟨a, ha, rfl, w⟩))
        refine ⟨(upd s.1 q (nI a), G'), ?_, cg1, fun m hm => ?_, fun m h1 h2 => (upd_n (by omega)).trans (P3 m (by omega) h2)⟩
        · dsimp only at fr
          rw [e, if_neg i01, ea, nI_clamp (show a < 2 ^ 31 by omega), if_pos w] at fr
          rw [ea] at gt
          refine (E_X0_hangBy_6 ..).trans ?_
          simp only [mg_14_0, (hC ..).2.2.1, Option.bind_some, if_pos (nI_lt6 k hq), mo_r hj, if_true, gt, zcI_some, mo_14, fr, i01, if_false, e1, zcV_some, nI_1]
        · by_cases z : m = q
          · subst z; exact ⟨upd_s.trans ea.symm, a, ha, ea⟩
          · exact ⟨(upd_n z).trans (P2 m (by omega)).1, (P2 m (by omega)).2⟩
      · left; right
        refine ⟨fun g => ?_, _, bad (by rw [e, if_neg i01, ea, nI_clamp (by omega), if_neg w])⟩
        rcases P1.2 a ha with z | ⟨m, hm, z1, z2⟩
        · exact w z
        · by_cases hmq : m < q
          · have := g.2 m q hm hq ((P2 m hmq).1.symm.trans (z2.trans ea.symm))
            omega
          · exact nI_n9 (by omega) (z2.symm.trans (P3 m (by omega) hm))
  · obtain ⟨P1, P2, P3⟩ := P
    left
    refine ⟨⟨fun m hm => (P2 m hm).2, fun m q hm hq e => ?_⟩, (s.1, s.2, A.2.2.1, A.2.2.2), ?_, P1, fun m hm => (P2 m hm).1, rfl⟩
    · obtain ⟨a, ha, ea⟩ := (P2 m hm).2
      exact zCG_inj P1 k hm hq ha ((P2 m hm).1.trans ea) ((P2 q hq).1.trans (e.symm.trans ea))
    · refine (E_X0_hangBy_6 ..).trans ?_
      simp only [mg_14_0, (hC ..).2.2.1, Option.bind_some, if_neg (nI_nlt6 k)]
end JUDGE
section MATES
variable {r : zE} {c0 c1 c2 : Nat} {I : Nat → Int32} {J : Nat → Int64} {Q : Nat → Nat → Int32} {N A : zBr} {Ga Va : Nat → Int32} {t : zH} {C : zCs} {c n : Nat}
def yAd (C : zCs) (H : zA) (m q : Nat) : Int32 := if C.2.2.2.2.2 m = C.2.2.2.2.2 q ∧ ¬ H m = -9 ∧ ¬ H q = -9 ∧ H q = H m + 1 then 1 else 0
theorem yAd_self (H : zA) (m : Nat) : yAd C H m m = 0 := by
  unfold yAd
  rw [if_neg]
  rintro ⟨-, -, -, h⟩
  have := i32_sub1.mpr h
  rw [Int32.sub_self] at this
  exact absurd this (by decide)
theorem yAd_two {H : zA} {m q : Nat} : (if C.2.2.2.2.2 m = C.2.2.2.2.2 q then if sBes C H q m 0 = 0 then (0 : Int32) else 1 else 0) = yAd C H m q + yAd C H q m := by
  unfold yAd sBes sIn
  by_cases e : C.2.2.2.2.2 m = C.2.2.2.2.2 q
  · by_cases h1 : H m = -9
    · simp [e, h1]
    · by_cases h2 : H q = -9
      · simp [e, h1, h2]
      · by_cases h3 : H q = H m + 1
        · have h4 : ¬ H m = H q + 1 := fun w => by
            have : H m - H q = 1 := i32_sub1.mpr w
            have h5 : H m - H q = -1 := i32_subm.mpr (by rw [h3, Int32.add_sub_cancel])
            rw [this] at h5
            exact absurd h5 (by decide)
          have h6 : H q - H m = 1 := i32_sub1.mpr h3
          rw [if_pos e, if_neg h1, if_pos rfl, if_neg h2, if_neg i01, if_pos h6, if_neg i01, if_pos ⟨e, h1, h2, h3⟩, if_neg (fun w => h4 w.2.2.2)]
          rfl
        · by_cases h4 : H m = H q + 1
          · have h6 : H q - H m = -1 := i32_subm.mpr (by rw [h4, Int32.add_sub_cancel])
            have h7 : ¬ H q - H m = 1 := fun w => h3 (i32_sub1.mp w)
            rw [if_pos e, if_neg h1, if_pos rfl, if_neg h2, if_neg i01, if_neg h7, if_pos h6, if_neg i01, if_neg (fun w => h3 w.2.2.2), if_pos ⟨e.symm, h2, h1, h4⟩]
            rfl
          · have h6 : ¬ H q - H m = -1 := fun w => h4 (by rw [i32_subm.mp w, Int32.sub_add_cancel])
            have h7 : ¬ H q - H m = 1 := fun w => h3 (i32_sub1.mp w)
            rw [if_pos e, if_neg h1, if_pos rfl, if_neg h2, if_neg i01, if_neg h7, if_neg h6, if_pos rfl, if_neg (fun w => h3 w.2.2.2), if_neg (fun w => h4 w.2.2.2)]
            rfl
  · have e' : ¬ C.2.2.2.2.2 q = C.2.2.2.2.2 m := fun w => e w.symm
    simp [e, e']
theorem mates_ad (H : zA) : sMates C H = ySu (fun m => ySu (fun q => yAd C H m q) C.2.1) C.2.1 := by
  unfold sMates
  rw [← su_tri (yAd C H) (yAd_self H)]
  unfold ySu
  refine zfd_congr fun s m _ _ => ?_
  rw [su_acc]
  congr 1
  exact su_c fun q _ => yAd_two
def yPr (C : zCs) (G : zA) (h : Nat) : Int32 := if zhk C.2.1 (G h) = 0 then 0 else if zhk C.2.1 (G (h + 1)) = 0 then 0 else if C.2.2.2.2.2 (G h).toNatClampNeg = C.2.2.2.2.2 (G (h + 1)).toNatClampNeg then 1 else 0
theorem mates_pr (k : zCk C) {H G : zA} (g : zCG C H G) : ySu (fun m => ySu (fun q => yAd C H m q) C.2.1) C.2.1 = ySu (yPr C G) (C.1 - 1) := by
  have k1 := k.1
  have k2 := k.2.1
  -- by the hook of the first
  have e1 : ySu (fun m => ySu (fun q => yAd C H m q) C.2.1) C.2.1 = ySu (fun m => ySu (fun h => if H m = nI h then ySu (fun q => yAd C H m q) C.2.1 else 0) C.1) C.2.1 := su_c fun m hm => by
    rcases g.1 m hm with z | ⟨j, a1, a2, -⟩
    · rw [su_zero fun q _ => by unfold yAd; rw [if_neg fun w => w.2.1 z]]
      exact (su_zero fun h _ => ite_self _).symm
    · rw [su_one a1 fun h hh hn => if_neg fun w => hn ((nI_eq (by omega) (by omega)).mp (w.symm.trans a2)), if_pos a2]
  rw [e1, su_swap]
  have e2 : ∀ h, h < C.1 → ySu (fun m => if H m = nI h then ySu (fun q => yAd C H m q) C.2.1 else 0) C.2.1 = if h + 1 < C.1 then yPr C G h else 0 := fun h hh => by
    unfold yPr
    rcases g.2 h hh with z | ⟨m, a1, a2, a3⟩
    · rw [z, zhk_none, if_pos rfl, ite_self]
      refine su_zero fun m hm => if_neg fun w => ?_
      rcases g.1 m hm with y | ⟨j, b1, b2, b3⟩
      · exact nI_n9 (show h < 2 ^ 31 by omega) (w.symm.trans y)
      · have : j = h := (nI_eq (by omega) (by omega)).mp (b2.symm.trans w)
        subst this
        exact nI_n9 (show m < 2 ^ 31 by omega) (b3.symm.trans z)
    · have hm9 : ¬ H m = -9 := by rw [a3]; exact nI_n9 (by omega)
      rw [su_one a1 fun q hq hn => if_neg fun w => hn (zCG_inj g k hq a1 hh w a3), if_pos a3, a2, zhk_in a1 (by omega), if_neg i01, nI_clamp (show m < 2 ^ 31 by omega)]
      by_cases hl : h + 1 < C.1
      · rw [if_pos hl]
        rcases g.2 (h + 1) hl with z | ⟨q, b1, b2, b3⟩
        · rw [z, zhk_none, if_pos rfl]
          refine su_zero fun q hq => ?_
          unfold yAd
          rw [if_neg]
          rintro ⟨-, -, -, w⟩
          rw [a3, nI_1] at w
          rcases g.1 q hq with y | ⟨j, c1, c2, c3⟩
          · exact nI_n9 (show h + 1 < 2 ^ 31 by omega) (w.symm.trans y)
          · have : j = h + 1 := (nI_eq (by omega) (by omega)).mp (c2.symm.trans w)
            subst this
            exact nI_n9 (show q < 2 ^ 31 by omega) (c3.symm.trans z)
        · rw [b2, zhk_in b1 (by omega), if_neg i01, nI_clamp (show q < 2 ^ 31 by omega)]
          have hq9 : ¬ H q = -9 := by rw [b3]; exact nI_n9 (by omega)
          rw [su_one b1 fun p hp hn => by
            unfold yAd
            rw [if_neg]
            rintro ⟨-, -, -, w⟩
            rw [a3, nI_1] at w
            exact hn (zCG_inj g k hp b1 hl w b3)]
          unfold yAd
          by_cases e : C.2.2.2.2.2 m = C.2.2.2.2.2 q
          · rw [if_pos ⟨e, hm9, hq9, by rw [a3, b3, nI_1]⟩, if_pos e]
          · rw [if_neg fun w => e w.1, if_neg e]
      · rw [if_neg hl]
        refine su_zero fun q hq => ?_
        unfold yAd
        rw [if_neg]
        rintro ⟨-, -, -, w⟩
        rw [a3, nI_1] at w
        rcases g.1 q hq with y | ⟨j, c1, c2, -⟩
        · exact nI_n9 (show h + 1 < 2 ^ 31 by omega) (w.symm.trans y)
        · have : j = h + 1 := (nI_eq (by omega) (by omega)).mp (c2.symm.trans w)
          omega
  rw [su_c e2]
  cases hN : C.1 with
  | zero => rfl
  | succ N =>
    rw [su_succ, if_neg (by omega), Int32.add_zero, Nat.add_sub_cancel]
    exact su_c fun h hh => if_pos (by omega)
theorem b_mates {x : Nat} {F : zBr → zH} {B : zBr} (b : zBx r x c C F) (k : zCk C) (g : zCG C B.1 B.2.1) : zev r i_X0_messmatePairs 0 [some (.ref x), none, none, none, none] [] (F B) = some (some (.int (sMates C B.1)), F B) := by
  have k1 := k.1
  have k2 := k.2.1
  rw [mates_ad, mates_pr k g, E_X0_messmatePairs_0]
  obtain ⟨v, o, g0, -, g2, -, -, -, r2, -⟩ := id (b B)
  obtain ⟨-, vH, -, -, -, -, v6, -, -, -, rm⟩ := id v
  refine zloop (fun h (a : Int32) => zev r i_X0_messmatePairs 4 [some (.ref x), some (.int a), some (.int (nI h)), none, none] [] (F B)) (fun a => some (some (.int a), F B)) _ (C.1 - 1) (fun h a hh => ?_) (fun a => ?_) 0
  · refine (E_X0_messmatePairs_4 ..).trans ?_
    simp only [g0, vH, Option.bind_some, nI_1, if_pos (nI_lt (show h + 1 < C.1 by omega) (show C.1 < 2 ^ 31 by omega)), g2, r2 h (show h < 7 by omega), r2 (h + 1) (show h + 1 < 7 by omega), v.1, if_true, cr_man v, zcI_some]
    unfold yPr
    rcases zhk_cases C.2.1 (by omega) (B.2.1 h) with e | ⟨e, m, hm, em⟩
    · simp only [e, if_true, Int32.add_zero]
    · rcases zhk_cases C.2.1 (by omega) (B.2.1 (h + 1)) with f | ⟨f, q, hq, eq⟩
      · simp only [e, f, i01, if_true, if_false, Int32.add_zero, g0, v.1, Option.bind_some, cr_man v, zcI_some]
      · have cm := nI_clamp (show m < 2 ^ 31 by omega)
        have cq := nI_clamp (show q < 2 ^ 31 by omega)
        rw [em] at e
        rw [eq] at f
        simp only [em, eq, e, f, i01, if_true, if_false, g0, v.1, Option.bind_some, cr_man v, zcI_some, v6, rm m hm, rm q hq, cm, cq]
        by_cases z : C.2.2.2.2.2 m = C.2.2.2.2.2 q
        · rw [if_pos z, if_pos z]
        · rw [if_neg z, if_neg z, Int32.add_zero]
  · refine (E_X0_messmatePairs_4 ..).trans ?_
    have : ¬ nI (C.1 - 1 + 1) < nI C.1 := by
      by_cases z : C.1 = 0
      · rw [z]; decide
      · rw [show C.1 - 1 + 1 = C.1 by omega]; exact nI_nlt (Nat.le_refl _) (by omega)
    simp only [g0, vH, Option.bind_some, nI_1, if_neg this]
def yMm (C : zCs) (a : Int32) (p : List Nat) : Int32 := if a < sMates C (yPl p) then sMates C (yPl p) else a
end MATES
section CALLS11
variable {r : zE} {C : zCs} {d : Nat} {M : Nat → zDk} {K : Nat → Option (Nat × (Nat → zDk))} {W Tx : Nat → Option (List Int32)} {ta : Int32} {tu tl : Int64} {Ga Va : zA} {n : Nat} {h : zH}
theorem map_at {p : List Nat} {i : Nat} (hi : i < p.length) : (p.map nI).getD i 0 = nI (p.getD i 0) := by
  rw [List.getD_eq_getElem?_getD, List.getD_eq_getElem?_getD, List.getElem?_map, List.getElem?_eq_getElem hi]
  rfl
theorem getD_inj {p : List Nat} (nd : p.Nodup) {i j : Nat} (hi : i < p.length) (hj : j < p.length) (e : p.getD i 0 = p.getD j 0) : i = j := by
  rw [List.getD_eq_getElem?_getD, List.getD_eq_getElem?_getD, List.getElem?_eq_getElem hi, List.getElem?_eq_getElem hj] at e
  have pw := List.pairwise_iff_getElem.mp nd
  rcases Nat.lt_trichotomy i j with w | w | w
  · exact absurd e (pw i j hi hj w)
  · exact w
  · exact absurd e.symm (pw j i hj hi w)
theorem yE_nd {N : Nat} {n : Nat} {x : List Nat} (h : x ∈ yE N [] n) : x.Nodup := by
  rw [yE_eq] at h
  have := (List.mem_filter.mp h).2
  unfold yP at this
  exact (of_decide_eq_true this).1
theorem yPs_nd {C : zCs} {p : List Nat} (h : p ∈ yPs C) : p.Nodup := yE_nd h
theorem ck_judge (E : zEk r) (m0 : 0 < C.2.1) {j w : Nat} {p : List Nat} (hj : j < 6) (hw : w < 3) (hW : W j = some (p.map nI)) (hp : p ∈ yPs C) (st : zSt r C d M K W Tx ta tu tl Ga Va n h) : ∃ h', zev r i_X5_judge 0 [some (.ref (r.1 + 0)), some (.int (nI j)), some (.int (nI w)), none] [] h = some (some (.int (sAll C (yPl p) (M d).2.1 (nI w))), h') ∧ zSt r C d M K W Tx ta tu tl Ga Va n h' := by
  obtain ⟨c, c2, I, J, Q, N, A, t, rfl, iv, t1, t2⟩ := st
  obtain ⟨k, hC, no, de, -⟩ := id iv
  have k1 := k.1
  have k2 := k.2.1
  have m1 : ¬ nI C.2.1 = 0 := nI_ne0 m0 (by omega)
  obtain ⟨hm, s1, s3⟩ := rw_some (iv.2.2.2.2.2.2.2.1 j hj) hW
  obtain ⟨pl, pb⟩ := yPs_mem hp
  have nd := yPs_nd hp
  rw [List.length_map, pl] at s1 hm s3
  have e : zhk 6 (nI j) = 1 := zhk_in hj (by decide)
  have g : zhk 3 (nI w) = 1 := zhk_in hw (by decide)
  have cj := nI_clamp (show j < 2 ^ 31 by omega)
  have nm1 := nI_m1 (show C.2.1 < 2 ^ 31 by omega)
  have s4 : ∀ i, i < C.2.1 → Q (13 + j) i = nI (p.getD i 0) := fun i hi => by rw [s3 i hi, map_at (by omega)]
  have lt : ∀ i, i < C.2.1 → p.getD i 0 < C.1 := fun i hi => pb _ (by
    rw [List.getD_eq_getElem?_getD, List.getElem?_eq_getElem (by omega)]
    exact List.getElem_mem _)
  have gd : yGd C (Q (13 + j)) := ⟨fun m hm => ⟨p.getD m 0, lt m hm, s4 m hm⟩, fun a b ha hb q => by
    rw [s4 a ha, s4 b hb] at q
    have h1 := lt a ha
    have h2 := lt b hb
    exact getD_inj nd (by omega) (by omega) ((nI_eq (by omega) (by omega)).mp q)⟩
  have hb := k_hangBy (c0 := c) (c1 := c) (I := I) (J := J) (Q := Q) (N := N) (A := yCp N A) (Ga := Ga) (Va := Va) k hC hj s1
  rcases hb with ⟨g1, A', ec, cg, hh, hl⟩ | ⟨g1, A', ec⟩
  · have ax := aBx (r := r) (c0 := c) (c1 := c) (I := I) (J := J) (Q := Q) (N := N) (Ga := Ga) (Va := Va) hC
    have lA : ∀ p, p < C.2.1 → A'.2.2.1 p = N.2.2.1 p := fun p hp => by rw [hl]; exact cp_l k N A p hp
    have ea := b_all ax k E (B := A') (lk_c lA no.2.1) cg (nI w)
    rw [sAll_c (H := yPl p) (L := (M d).2.1) (fun q hq => (hh q hq).trans (s4 q hq)) (fun q hq => (lA q hq).trans (de_l de q hq))] at ea
    refine ⟨(zmk r c c (c) I J Q N (A') Ga Va t), ?_, st_mk iv t1 t2⟩
    simp only [E_X5_judge_0, mo_0, mg_0_0, mg_0_1, mg_0_2, mg_0_3, mg_0_4, mg_0_5, mg_0_6, mg_0_7, mg_0_8, mg_0_9, mg_0_10, mg_0_11, mo_14, if_true, k_rowAt, e, i01, if_false, zcQ_ref, cj, k_when, g, zcI_some, (hC ..).2.2.1, Option.bind_some, m1, mo_r hj, wr_miss hj, s1, nm1, mgs_r hj, a_copy, zcV_some, ec, ea]
  · exact absurd gd g1
theorem ck_mates (m0 : 0 < C.2.1) (st : zSt r C d M K W Tx ta tu tl Ga Va n h) : ∃ h', zev r i_X5_mates 0 [some (.ref (r.1 + 0)), none, none] [] h = some (some (.int (sMates C (M d).1)), h') ∧ zSt r C d M K W Tx ((yPs C).foldl (yMm C) 0) tu tl Ga Va n h' := by
  obtain ⟨c, c2, I, J, Q, N, A, t, rfl, iv, t1, t2⟩ := st
  obtain ⟨k, hC, no, de, -⟩ := id iv
  have k2 := k.2.1
  have m1 : ¬ nI C.2.1 = 0 := nI_ne0 m0 (by omega)
  have lp := (yPs_len k).2
  rw [← sMates_c (de_h de)]
  obtain ⟨A0, e0, ao⟩ := a_begin (c2 := c2) (I := I) (J := J) (Q := Q) (A := A) (Ga := Ga) (Va := Va) k hC no
  obtain ⟨A1, e1, -⟩ := c_all k N.2.2.1 (fun n (a : Int32) A => zev r i_X5_mates 27 [some (.ref (r.1 + 0)), some (.int a), some (.int (nI n))] [] (zmk r c c (c) I J Q N A Ga Va t)) (yMm C) (fun _ => True) (fun n a A p _ hn hp ao => by
    have ax := aBx (r := r) (c0 := c) (c1 := c) (I := I) (J := J) (Q := Q) (N := N) (Ga := Ga) (Va := Va) hC
    have ea := b_mates ax k (B := A) ao.1
    rw [sMates_c (hx_pl ao.2.1)] at ea
    obtain ⟨A', en, h1, h2, h3⟩ := a_next (c0 := c) (c1 := c) (I := I) (J := J) (Q := Q) (N := N) (A := A) (Ga := Ga) (Va := Va) k hC ao
    refine ⟨trivial, A', ?_, h1, h2, h3⟩
    refine (E_X5_mates_27 ..).trans ?_
    simp only [if_pos (show (0 : Int32) < nI (n + 1) from nI_lt (a := 0) (by omega) (by omega)), mo_0, mg_0_0, mg_0_1, mg_0_2, mg_0_3, mg_0_4, mg_0_5, mg_0_6, mg_0_7, mg_0_8, mg_0_9, mg_0_10, mg_0_11, mo_14, Option.bind_some, if_true, ea, zcI_some, en, zcV_some, pk_m1]
    rfl) 0 A0 trivial ao
  generalize (yPs C).foldl (yMm C) 0 = T at e1
  refine ⟨(zmk r c c (c) (va_up I 0 T) J Q N (A1) Ga Va t), ?_, st_mk (iv_told T iv) t1 t2⟩
  have bx := nBx (r := r) (c0 := c) (c2 := c) (I := va_up I 0 T) (J := J) (Q := Q) (A := A1) (Ga := Ga) (Va := Va) hC
  simp only [E_X5_mates_0, mo_0, mg_0_0, mg_0_1, mg_0_2, mg_0_3, mg_0_4, mg_0_5, mg_0_6, mg_0_7, mg_0_8, mg_0_9, mg_0_10, mg_0_11, (hC ..).1, (hC ..).2.2.1, Option.bind_some, m1, if_false, if_true, e0, zcV_some, cr_plans (hC ..) k, sPlans_eq k, zcI_some]
  refine e1.trans ?_
  refine (E_X5_mates_27 ..).trans ?_
  simp only [if_neg (show ¬ (0 : Int32) < nI 0 by decide), mo_0, mg_0_0, mg_0_1, mg_0_2, mg_0_3, mg_0_4, mg_0_5, mg_0_6, mg_0_7, mg_0_8, mg_0_9, mg_0_10, mg_0_11, mo_9, if_true, k_tell, zcV_some, Option.bind_some, b_mates bx k (B := N) no.1, zcI_some]
end CALLS11
