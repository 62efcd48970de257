/-! ALL PLANS, one after the other: both loops -/
section LOOPS
variable {r : zE} {c0 c1 c2 : Nat} {I : Nat → Int32} {J : Nat → Int64} {Q : Nat → Nat → Int32} {N A : zBr} {U : Nat → Int32} {V : Nat → Int64} {X : Nat → Nat → Int32} {S : zSs} {t : zH} {C : zCs} {c n : Nat}
/-- a plan's hooks -/
def yPl (p : List Nat) : zA := fun i => nI (p.getD i 0)
theorem hx_pl {H : zA} {p : List Nat} (h : yHx C H p) : ∀ m, m < C.2.1 → H m = yPl p m := h.2
theorem pl_vd {H : zA} {p : List Nat} (h : yHx C H p) (hb : ∀ a, a ∈ p → a < C.1) : zVd C H := fun m hm => .inr ⟨p.getD m 0, hb _ (by
  rw [List.getD_eq_getElem?_getD, List.getElem?_eq_getElem (by rw [h.1]; exact hm)]
  exact List.getElem_mem _), h.2 m hm⟩
/-- the berths aside hang by a plan, on the lines L -/
def yAo (C : zCs) (L : zA) (A : zBr) (p : List Nat) : Prop := zCG C A.1 A.2.1 ∧ yHx C A.1 p ∧ (∀ m, m < C.2.1 → A.2.2.1 m = L m) ∧ ∀ a, a ∈ p → a < C.1
def yPs (C : zCs) : List (List Nat) := yE C.1 [] C.2.1
theorem yU_nil (N : Nat) : yU N [] := ⟨List.nodup_nil, fun a ha => absurd ha (by simp)⟩
theorem yPs_mem {p : List Nat} (h : p ∈ yPs C) : p.length = C.2.1 ∧ ∀ a, a ∈ p → a < C.1 := by
  unfold yPs at h
  rw [yE_eq] at h
  exact yA_len (List.mem_filter.mp h).1
theorem yFst_range (N : Nat) : ∀ (n j : Nat) (U : List Nat), j + n ≤ N → (∀ a, a ∈ U ↔ a < j) → yFst N U n = List.range' j n
  | 0, _, _, _, _ => rfl
  | n + 1, j, U, h, hU => by
    have e : (yF N U).head? = some j := by
      rw [yNx_hd]
      exact yNx_some (Nat.zero_le _) (by omega) (fun q => by have := (hU j).mp q; omega) fun x _ hx => (hU x).mpr hx
    rw [yFst, e, List.range'_succ]
    dsimp only
    rw [yFst_range N n (j + 1) (j :: U) (by omega) fun a => by
      rw [List.mem_cons, hU]
      omega]
theorem yPs_head (k : zCk C) : ∃ l, yPs C = List.range C.2.1 :: l := by
  have h := yE_head (yU_nil C.1) (n := C.2.1) (by simpa using k.2.2.1)
  rw [yFst_range C.1 C.2.1 0 [] (by have := k.2.2.1; omega) (fun a => by simp), ← List.range_eq_range'] at h
  cases e : yPs C with
  | nil => unfold yPs at e; rw [e] at h; exact absurd h (by simp)
  | cons a l =>
    unfold yPs at e
    rw [e] at h
    simp only [List.head?_cons, Option.some.injEq] at h
    exact ⟨l, by rw [h]⟩
theorem a_begin (k : zCk C) (hC : zCt r t c C) (no : zNo C N X) : ∃ A', zev r i_X5_beginPlans 0 [some (.ref (r.1 + 0))] [] (zmk r c c c2 I J Q N A U V X S t) = some (none, (zmk r c c (c) I J Q N (A') U V X S t)) ∧ yAo C N.2.2.1 A' (List.range C.2.1) := by
  have k3 := k.2.2.1
  have ax := aBx (r := r) (c0 := c) (c1 := c) (I := I) (J := J) (Q := Q) (N := N) (U := U) (V := V) (X := X) (S := S) hC
  obtain ⟨H', G', e1, h1, g1⟩ := b_first ax k (B := yCp N A)
  refine ⟨(H', G', (yCp N A).2.2.1, (yCp N A).2.2.2), ?_, g1, ⟨by simp, fun i hi => ?_⟩, cp_l k N A, fun a ha => by rw [List.mem_range] at ha; omega⟩
  · simp only [E_X5_beginPlans_0, mo_0, mg_0_0, mg_0_1, mg_0_2, mg_0_3, mg_0_4, mg_0_5, mg_0_6, mg_0_7, mg_0_8, mg_0_9, mg_0_10, mg_0_11, mo_14, Option.bind_some, if_true, a_copy, zcV_some, e1]
  · refine (h1 i hi).trans ?_
    rw [List.getD_eq_getElem?_getD, List.getElem?_range hi]
    rfl
theorem a_next (k : zCk C) (hC : zCt r t c C) {L : zA} {p : List Nat} (ao : yAo C L A p) : ∃ A', zev r i_X0_hangByNextPlan 0 [some (.ref (r.1 + 14)), none, none] [] (zmk r c0 c1 (c) I J Q N A U V X S t) = some (none, (zmk r c0 c1 (c) I J Q N (A') U V X S t)) ∧ zCG C A'.1 A'.2.1 ∧ (∀ m, m < C.2.1 → A'.2.2.1 m = L m) ∧ ∀ p', yS C.1 [] p = some p' → yHx C A'.1 p' := by
  have ax := aBx (r := r) (c0 := c0) (c1 := c1) (I := I) (J := J) (Q := Q) (N := N) (U := U) (V := V) (X := X) (S := S) hC
  obtain ⟨H', G', e1, g1, h1⟩ := b_nextp (L := A.2.2.1) (T := A.2.2.2) ax k ao.1 ao.2.1 ao.2.2.2
  exact ⟨(H', G', A.2.2.1, A.2.2.2), e1, g1, ao.2.2.1, h1⟩
/-- the class's loop over all plans -/
theorem c_plans {α β : Type} (L : zA) (F : Nat → α → zBr → β) (g : α → List Nat → α) (Iv : α → Prop) (hs : ∀ n a A p, Iv a → n + 1 ≤ 117649 → p ∈ yPs C → yAo C L A p → Iv (g a p) ∧ ∃ A', F (n + 1) a A = F n (g a p) A' ∧ zCG C A'.1 A'.2.1 ∧ (∀ m, m < C.2.1 → A'.2.2.1 m = L m) ∧ ∀ p', yS C.1 [] p = some p' → yHx C A'.1 p') :
    ∀ (l : List (List Nat)) (a : α) (A : zBr), yRn (yS C.1 []) none l → (∀ p, p ∈ l → p ∈ yPs C) → l.length ≤ 117649 → Iv a → (∀ p, l.head? = some p → yAo C L A p) → ∃ A', F l.length a A = F 0 (l.foldl g a) A' ∧ Iv (l.foldl g a)
  | [], a, A, _, _, _, iv, _ => ⟨A, rfl, iv⟩
  | p :: l, a, A, hr, hm, hl, iv, ha => by
    obtain ⟨iv', A', e1, g1, l1, h1⟩ := hs l.length a A p iv hl (hm p List.mem_cons_self) (ha p rfl)
    obtain ⟨A2, e2, iv2⟩ := c_plans L F g Iv hs l (g a p) A' hr.2 (fun q hq => hm q (List.mem_cons_of_mem _ hq)) (by simp at hl; omega) iv' fun q hq => ⟨g1, h1 q (by
      have := hr.1
      rw [hq] at this
      exact this), l1, (yPs_mem (hm q (List.mem_cons_of_mem _ (List.mem_of_mem_head? (by rw [hq]; rfl))))).2⟩
    exact ⟨A2, by rw [List.length_cons, e1, e2]; rfl, iv2⟩
theorem yPc_le {N : Nat} (h : N ≤ 7) : ∀ n u : Nat, yPc N u n ≤ 7 ^ n
  | 0, _ => Nat.le_refl _
  | n + 1, u => by
    rw [yPc, Nat.pow_succ, Nat.mul_comm]
    exact Nat.mul_le_mul (yPc_le h n (u + 1)) (by omega)
theorem yPs_len (k : zCk C) : (yPs C).length = yPc C.1 0 C.2.1 ∧ (yPs C).length ≤ 117649 := by
  have h := yE_count (yU_nil C.1) (n := C.2.1) (by simpa using k.2.2.1)
  refine ⟨h, ?_⟩
  unfold yPs
  rw [h]
  refine Nat.le_trans (yPc_le k.1 _ _) ?_
  exact Nat.le_trans (Nat.pow_le_pow_right (by decide) k.2.1) (by decide)
theorem sPlans_eq (k : zCk C) : sPlans C = nI (yPs C).length := by
  rw [(yPs_len k).1]
  have : ∀ n j a : Nat, j + n ≤ C.1 → zfd (fun (a : Int32) m => a * (nI C.1 - nI m)) j n (nI a) = nI (a * yPc C.1 j n) := by
    intro n
    induction n with
    | zero => intro j a _; simp [zfd, yPc]
    | succ n ih =>
      intro j a h
      rw [zfd, pk_sub (by omega), pk_mul, ih (j + 1) _ (by omega), yPc, Nat.mul_assoc]
  have e := this C.2.1 0 1 (by have := k.2.2.1; omega)
  rw [Nat.one_mul] at e
  exact e
theorem c_all {α β : Type} (k : zCk C) (L : zA) (F : Nat → α → zBr → β) (g : α → List Nat → α) (Iv : α → Prop) (hs : ∀ n a A p, Iv a → n + 1 ≤ 117649 → p ∈ yPs C → yAo C L A p → Iv (g a p) ∧ ∃ A', F (n + 1) a A = F n (g a p) A' ∧ zCG C A'.1 A'.2.1 ∧ (∀ m, m < C.2.1 → A'.2.2.1 m = L m) ∧ ∀ p', yS C.1 [] p = some p' → yHx C A'.1 p') (a : α) (A : zBr) (iv : Iv a) (ao : yAo C L A (List.range C.2.1)) :
    ∃ A', F (yPs C).length a A = F 0 ((yPs C).foldl g a) A' ∧ Iv ((yPs C).foldl g a) := by
  obtain ⟨l, el⟩ := yPs_head k
  refine c_plans L F g Iv hs (yPs C) a A (yE_run (yU_nil C.1) (by simpa using k.2.2.1)) (fun _ h => h) (yPs_len k).2 iv fun p hp => ?_
  rw [el] at hp
  simp only [List.head?_cons, Option.some.injEq] at hp
  subst hp
  exact ao
theorem m_first (mv : zMv C U X) (k : zCk C) (no : zNo C N X) : ∃ H', (∀ c0 c1 c2 I J Q N' A V t, zev r i_X6_firstPlan 0 [some (.ref (r.1 + 49)), none] [] (zmk r c0 c1 c2 I J Q (N') A U V X S t) = some (none, (zmk r c0 c1 c2 I J Q (N') A U V X ((H', (zNw X S).2)) t))) ∧ yHx C H' (List.range C.2.1) := by
  have k2 := k.2.1
  refine ⟨zfd (fun (f : zA) j => upd f j (nI j)) 0 C.2.1 (zNw X S).1, fun c0 c1 c2 I J Q N' A V t => ?_, by simp, fun i hi => ?_⟩
  · simp only [E_X6_firstPlan_0, mo_49, mg_49_0, mg_49_1, mg_49_2, mg_49_3, mg_49_4, mg_49_5, mg_49_6, mg_49_7, mg_49_8, mg_49_9, mg_49_10, mg_49_11, mg_49_12, mg_49_13, mg_49_14, mg_49_15, mg_49_16, mg_49_17, mg_49_18, mg_49_19, mg_49_20, mg_49_21, mg_49_22, mg_49_23, mg_49_24, mg_49_25, if_true, m_now, zcV_some]
    refine zloop (fun j (f : zA) => zev r i_X6_firstPlan 6 [some (.ref (r.1 + 49)), some (.int (nI j))] [] (zmk r c0 c1 c2 I J Q (N') A U V X ((f, (zNw X S).2)) t)) (fun f => some (none, (zmk r c0 c1 c2 I J Q (N') A U V X ((f, (zNw X S).2)) t))) _ C.2.1 (fun j f hj => ?_) (fun f => ?_) (zNw X S).1
    · refine (E_X6_firstPlan_6 ..).trans ?_
      simp only [mo_49, mg_49_0, mg_49_1, mg_49_2, mg_49_3, mg_49_4, mg_49_5, mg_49_6, mg_49_7, mg_49_8, mg_49_9, mg_49_10, mg_49_11, mg_49_12, mg_49_13, mg_49_14, mg_49_15, mg_49_16, mg_49_17, mg_49_18, mg_49_19, mg_49_20, mg_49_21, mg_49_22, mg_49_23, mg_49_24, mg_49_25, Option.bind_some, if_pos (m_lt mv k hj), mw_62 (show j < 6 by omega), nI_1]
    · refine (E_X6_firstPlan_6 ..).trans ?_
      simp only [mo_49, mg_49_0, mg_49_1, mg_49_2, mg_49_3, mg_49_4, mg_49_5, mg_49_6, mg_49_7, mg_49_8, mg_49_9, mg_49_10, mg_49_11, mg_49_12, mg_49_13, mg_49_14, mg_49_15, mg_49_16, mg_49_17, mg_49_18, mg_49_19, mg_49_20, mg_49_21, mg_49_22, mg_49_23, mg_49_24, mg_49_25, Option.bind_some, if_neg (m_nlt mv k)]
  · have := zfd_inv (f := fun (f : zA) j => upd f j (nI j)) (fun j f => i < j → f i = nI i) (j := 0) (n := C.2.1) (s := (zNw X S).1) (fun h => absurd h (Nat.not_lt_zero _)) (fun f j _ _ ih h => by
      by_cases e : i = j
      · subst e; exact upd_s
      · exact (upd_n e).trans (ih (by omega)))
    rw [this (by omega), List.getD_eq_getElem?_getD, List.getElem?_range hi]
    rfl
theorem yA_split (k : zCk C) (hN : 0 < C.1) : ∃ l, yRn (yT C.1) none (List.range C.2.1 :: l) ∧ (∀ q, q ∈ List.range C.2.1 :: l → ∀ a, a ∈ q → a < C.1) ∧ yPs C = List.range C.2.1 :: l.filter fun q => decide q.Nodup := by
  obtain ⟨l0, el⟩ := yPs_head k
  have e : (yA C.1 C.2.1).filter (fun q => decide q.Nodup) = List.range C.2.1 :: l0 := by
    rw [← el]
    unfold yPs
    rw [yE_eq]
    refine List.filter_congr fun q _ => ?_
    simp [yP]
  obtain ⟨l1, l2, h1, h2, h3, h4⟩ := List.filter_eq_cons_iff.mp e
  have run := yA_run hN C.2.1
  rw [h1] at run
  have tail : ∀ l1 l2 : List (List Nat), yRn (yT C.1) none (l1 ++ l2) → yRn (yT C.1) none l2 := by
    intro l1
    induction l1 with
    | nil => intro l2 h; exact h
    | cons a l1 ih => intro l2 h; exact ih l2 h.2
  refine ⟨l2, tail l1 _ run, fun q hq a ha => (yA_len (N := C.1) (n := C.2.1) (x := q) (by rw [h1]; exact List.mem_append_right _ hq)).2 a ha, ?_⟩
  rw [el, h4]
/-- the reference's loop over all plans -/
theorem m_plans {α β : Type} (F F0 : α → zA → β) (g : α → List Nat → α) (Iv : α → Prop) (hs : ∀ a H p l, Iv a → yHx C H p → (∀ a, a ∈ p → a < C.1) → p.Nodup → yRn (yT C.1) none (p :: l) → (∀ q, q ∈ p :: l → ∀ a, a ∈ q → a < C.1) → Iv (g a p) ∧ ∃ H', (∀ q, l.find? (fun q => decide q.Nodup) = some q → F a H = F (g a p) H' ∧ yHx C H' q) ∧ (l.find? (fun q => decide q.Nodup) = none → F a H = F0 (g a p) H')) :
    ∀ (n : Nat) (l : List (List Nat)) (p : List Nat) (a : α) (H : zA), l.length ≤ n → Iv a → yHx C H p → p.Nodup → yRn (yT C.1) none (p :: l) → (∀ q, q ∈ p :: l → ∀ a, a ∈ q → a < C.1) → ∃ H', F a H = F0 ((p :: l.filter fun q => decide q.Nodup).foldl g a) H' ∧ Iv ((p :: l.filter fun q => decide q.Nodup).foldl g a)
  | n, l, p, a, H, hl, iv, hp, hn, hr, hb => by
    obtain ⟨iv', H', h1, h2⟩ := hs a H p l iv hp (hb p List.mem_cons_self) hn hr hb
    cases e : l.find? (fun q => decide q.Nodup) with
    | none =>
      have : l.filter (fun q => decide q.Nodup) = [] := List.filter_eq_nil_iff.mpr (List.find?_eq_none.mp e)
      rw [this]
      exact ⟨H', h2 e, iv'⟩
    | some q =>
      obtain ⟨e1, hq⟩ := h1 q e
      obtain ⟨qn, l1, l2, hl2, hno⟩ := List.find?_eq_some_iff_append.mp e
      have ef : l.filter (fun q => decide q.Nodup) = q :: l2.filter fun q => decide q.Nodup := by
        rw [hl2, List.filter_append, List.filter_cons, if_pos qn, List.filter_eq_nil_iff.mpr, List.nil_append]
        intro z hz
        have := hno z hz
        simpa using this
      have tail : ∀ l1 l2 : List (List Nat), yRn (yT C.1) none (l1 ++ l2) → yRn (yT C.1) none l2 := by
        intro l1
        induction l1 with
        | nil => intro l2 h; exact h
        | cons a l1 ih => intro l2 h; exact ih l2 h.2
      have ln : l.length = l1.length + (l2.length + 1) := by rw [hl2]; simp
      match n, hl with
      | 0, hl => omega
      | n + 1, hl =>
        obtain ⟨H2, e2, iv2⟩ := m_plans F F0 g Iv hs n l2 q (g a p) H' (by omega) iv' hq (by simpa using qn) (tail l1 _ (by rw [← hl2]; exact hr.2)) (fun z hz => hb z (List.mem_cons_of_mem _ (by rw [hl2]; exact List.mem_append_right _ hz)))
        rw [ef]
        exact ⟨H2, e1.trans e2, iv2⟩
theorem m_all' {α β : Type} (k : zCk C) (hN : 0 < C.1) (F F0 : α → zA → β) (g : α → List Nat → α) (Iv : α → Prop) (hs : ∀ a H p l, Iv a → yHx C H p → (∀ a, a ∈ p → a < C.1) → p.Nodup → yRn (yT C.1) none (p :: l) → (∀ q, q ∈ p :: l → ∀ a, a ∈ q → a < C.1) → Iv (g a p) ∧ ∃ H', (∀ q, l.find? (fun q => decide q.Nodup) = some q → F a H = F (g a p) H' ∧ yHx C H' q) ∧ (l.find? (fun q => decide q.Nodup) = none → F a H = F0 (g a p) H')) (a : α) (H : zA) (iv : Iv a) (hp : yHx C H (List.range C.2.1)) : ∃ H', F a H = F0 ((yPs C).foldl g a) H' ∧ Iv ((yPs C).foldl g a) := by
  obtain ⟨l, h1, h2, h3⟩ := yA_split k hN
  rw [h3]
  exact m_plans F F0 g Iv hs l.length l (List.range C.2.1) a H (Nat.le_refl _) iv hp List.nodup_range h1 h2
/-- the reference goes on: what its answer is, and where -/
theorem m_go (mv : zMv C U X) (k : zCk C) {H : zA} {p : List Nat} {l : List (List Nat)} (hp : yHx C H p) (hr : yRn (yT C.1) none (p :: l)) (hb : ∀ q, q ∈ p :: l → ∀ a, a ∈ q → a < C.1) : ∃ H', zev r i_X6_nextPlan 0 [some (.ref (r.1 + 49)), none, none] [] (zmk r c0 c1 c2 I J Q N A U V X ((H, S.2)) t) = some (some (.int (match l.find? (fun q => decide q.Nodup) with | some _ => 1 | none => 0)), (zmk r c0 c1 c2 I J Q N A U V X ((H', S.2)) t)) ∧ ∀ q, l.find? (fun q => decide q.Nodup) = some q → yHx C H' q := by
  obtain ⟨H', e1, h1⟩ := m_nextp (r := r) (c0 := c0) (c1 := c1) (c2 := c2) (I := I) (J := J) (Q := Q) (N := N) (A := A) (V := V) (S := S) (t := t) mv k l p H hr hb hp
  exact ⟨H', (E_X6_nextPlan_0 ..).trans e1, h1⟩
end LOOPS
