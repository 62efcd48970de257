/-! ORDERS as lists: all of them; the first that costs least -/
def yPm : Nat → List Nat → List (List Nat)
  | 0, _ => [[]]
  | n + 1, s => s.flatMap fun a => (yPm n (s.erase a)).map (a :: ·)
section ORDER
variable (adj : Nat → Nat → Bool) (ht : Nat → Nat)
/-- of two, the second behind the first costs no more than need be -/
def yOk (a k : Nat) : Bool := !adj a k || decide (ht k ≤ ht a)
def yGo : List Nat → Bool
  | [] => true
  | a :: l => l.all (yOk adj ht a) && yGo l
/-- always the first that has no bulkier one beside it -/
def yG : Nat → List Nat → List Nat
  | 0, _ => []
  | n + 1, s => match s.find? fun a => s.all (yOk adj ht a) with
    | some m => m :: yG n (s.erase m)
    | none => []
def yWw (a b : Nat) : Nat := if adj a b = true then 1 + ht b else 0
def yCs : List Nat → Nat
  | [] => 0
  | a :: l => (l.map (yWw adj ht a)).sum + yCs l
def yLb (a b : Nat) : Nat := if adj a b = true then 1 + min (ht a) (ht b) else 0
def yLs' : List Nat → Nat
  | [] => 0
  | a :: l => (l.map (yLb adj ht a)).sum + yLs' l
theorem yPm_perm : ∀ {n : Nat} {s o : List Nat}, s.length = n → o ∈ yPm n s → o.Perm s
  | 0, s, o, hl, h => by
    simp [yPm] at h
    subst h
    rw [List.length_eq_zero_iff.mp hl]
  | n + 1, s, o, hl, h => by
    simp only [yPm, List.mem_flatMap, List.mem_map] at h
    obtain ⟨a, ha, l, hl2, rfl⟩ := h
    have := yPm_perm (by rw [List.length_erase_of_mem ha]; omega) hl2
    exact (List.Perm.cons a this).trans (List.perm_cons_erase ha).symm
theorem findSome_ite {α β : Type} {p : α → Bool} {g : α → β} : ∀ l : List α, l.findSome? (fun a => if p a = true then some (g a) else none) = (l.find? p).map g
  | [] => rfl
  | a :: l => by
    rw [List.findSome?_cons, List.find?_cons]
    by_cases h : p a = true
    · simp [h]
    · simp only [h, if_false]
      exact findSome_ite l
theorem all_perm {p : Nat → Bool} {l s : List Nat} (h : l.Perm s) : l.all p = s.all p := by
  rw [Bool.eq_iff_iff, List.all_eq_true, List.all_eq_true]
  exact ⟨fun q x hx => q x (h.mem_iff.mpr hx), fun q x hx => q x (h.mem_iff.mp hx)⟩
theorem yG_some {s : List Nat} (h : s ≠ []) : ∃ m, (s.find? fun a => s.all (yOk adj ht a)) = some m ∧ m ∈ s := by
  have mx : ∀ s : List Nat, s ≠ [] → ∃ m, m ∈ s ∧ ∀ k, k ∈ s → ht k ≤ ht m := by
    intro s
    induction s with
    | nil => intro h; exact absurd rfl h
    | cons a s ih =>
      intro _
      by_cases e : s = []
      · subst e
        exact ⟨a, by simp, fun k hk => by simp at hk; subst hk; exact Nat.le_refl _⟩
      · obtain ⟨m, h1, h2⟩ := ih e
        by_cases q : ht a ≤ ht m
        · exact ⟨m, List.mem_cons_of_mem _ h1, fun k hk => by
            rcases List.mem_cons.mp hk with w | w
            · subst w; exact q
            · exact h2 k w⟩
        · exact ⟨a, List.mem_cons_self, fun k hk => by
            rcases List.mem_cons.mp hk with w | w
            · subst w; exact Nat.le_refl _
            · have := h2 k w; omega⟩
  obtain ⟨m, h1, h2⟩ := mx s h
  cases e : s.find? fun a => s.all (yOk adj ht a) with
  | some q => exact ⟨q, rfl, List.mem_of_find?_eq_some e⟩
  | none =>
    have := List.find?_eq_none.mp e m h1
    exfalso
    apply this
    rw [List.all_eq_true]
    intro k hk
    simp [yOk, h2 k hk]
theorem yG_find : ∀ (n : Nat) (s : List Nat), s.length = n → (yPm n s).find? (yGo adj ht) = some (yG adj ht n s)
  | 0, s, _ => rfl
  | n + 1, s, hl => by
    have key : ∀ a, a ∈ s → ((yPm n (s.erase a)).map (a :: ·)).find? (yGo adj ht) = if s.all (yOk adj ht a) = true then some (a :: yG adj ht n (s.erase a)) else none := fun a ha => by
      have hle : (s.erase a).length = n := by rw [List.length_erase_of_mem ha]; omega
      have e1 : s.all (yOk adj ht a) = (s.erase a).all (yOk adj ht a) := by
        rw [all_perm (List.perm_cons_erase ha), List.all_cons]
        have : yOk adj ht a a = true := by simp [yOk]
        rw [this, Bool.true_and]
      have ih := yG_find n (s.erase a) hle
      rw [List.find?_map]
      have e2 : (yPm n (s.erase a)).find? (yGo adj ht ∘ fun x => a :: x) = if s.all (yOk adj ht a) = true then (yPm n (s.erase a)).find? (yGo adj ht) else none := by
        by_cases q : s.all (yOk adj ht a) = true
        · rw [if_pos q]
          have : ∀ L : List (List Nat), (∀ o, o ∈ L → o.Perm (s.erase a)) → L.find? (yGo adj ht ∘ fun x => a :: x) = L.find? (yGo adj ht) := by
            intro L
            induction L with
            | nil => intro _; rfl
            | cons o L ihL =>
              intro hL
              have eo : (yGo adj ht ∘ fun x => a :: x) o = yGo adj ht o := by
                show (o.all (yOk adj ht a) && yGo adj ht o) = yGo adj ht o
                rw [all_perm (hL o List.mem_cons_self), ← e1, q, Bool.true_and]
              rw [List.find?_cons, List.find?_cons, eo, ihL fun o' ho' => hL o' (List.mem_cons_of_mem _ ho')]
          exact this _ fun o ho => yPm_perm hle ho
        · rw [if_neg q, List.find?_eq_none]
          intro o ho w
          apply q
          have : (o.all (yOk adj ht a) && yGo adj ht o) = true := w
          rw [Bool.and_eq_true] at this
          rw [e1, ← all_perm (yPm_perm hle ho)]
          exact this.1
      rw [e2]
      by_cases q : s.all (yOk adj ht a) = true
      · rw [if_pos q, if_pos q, ih]; rfl
      · rw [if_neg q, if_neg q]; rfl
    rw [yPm, List.find?_flatMap]
    have e3 : s.findSome? (fun a => ((yPm n (s.erase a)).map (a :: ·)).find? (yGo adj ht)) = s.findSome? fun a => if s.all (yOk adj ht a) = true then some (a :: yG adj ht n (s.erase a)) else none := by
      have : ∀ l : List Nat, (∀ a, a ∈ l → a ∈ s) → l.findSome? (fun a => ((yPm n (s.erase a)).map (a :: ·)).find? (yGo adj ht)) = l.findSome? fun a => if s.all (yOk adj ht a) = true then some (a :: yG adj ht n (s.erase a)) else none := by
        intro l
        induction l with
        | nil => intro _; rfl
        | cons a l ih =>
          intro h
          rw [List.findSome?_cons, List.findSome?_cons, key a (h a List.mem_cons_self), ih fun b hb => h b (List.mem_cons_of_mem _ hb)]
      exact this s fun _ h => h
    rw [e3, findSome_ite (p := fun a => s.all (yOk adj ht a)), yG]
    obtain ⟨m, hm, -⟩ := yG_some adj ht (s := s) (by intro q; rw [q] at hl; simp at hl)
    rw [hm]
    rfl
theorem sum_le {f g : Nat → Nat} : ∀ l : List Nat, (∀ x, x ∈ l → f x ≤ g x) → (l.map f).sum ≤ (l.map g).sum
  | [], _ => Nat.le_refl _
  | a :: l, h => by
    rw [List.map_cons, List.map_cons, List.sum_cons, List.sum_cons]
    exact Nat.add_le_add (h a List.mem_cons_self) (sum_le l fun x hx => h x (List.mem_cons_of_mem _ hx))
theorem sum_eq {f g : Nat → Nat} : ∀ l : List Nat, (∀ x, x ∈ l → f x ≤ g x) → ((l.map g).sum = (l.map f).sum ↔ ∀ x, x ∈ l → g x = f x)
  | [], _ => by simp
  | a :: l, h => by
    rw [List.map_cons, List.map_cons, List.sum_cons, List.sum_cons]
    have h1 := h a List.mem_cons_self
    have h2 := sum_le l fun x hx => h x (List.mem_cons_of_mem _ hx)
    have ih := sum_eq l fun x hx => h x (List.mem_cons_of_mem _ hx)
    constructor
    · intro e x hx
      rcases List.mem_cons.mp hx with q | q
      · subst q; omega
      · exact ih.mp (by omega) x q
    · intro e
      rw [e a List.mem_cons_self, ih.mpr fun x hx => e x (List.mem_cons_of_mem _ hx)]
theorem ww_lb (a b : Nat) : yLb adj ht a b ≤ yWw adj ht a b ∧ (yWw adj ht a b = yLb adj ht a b ↔ yOk adj ht a b = true) := by
  unfold yLb yWw yOk
  by_cases h : adj a b = true
  · simp only [h, if_true, Bool.not_true, Bool.false_or, decide_eq_true_eq]
    omega
  · simp [h]
theorem cs_lb : ∀ o : List Nat, yLs' adj ht o ≤ yCs adj ht o ∧ (yCs adj ht o = yLs' adj ht o ↔ yGo adj ht o = true)
  | [] => ⟨Nat.le_refl _, by simp [yCs, yLs', yGo]⟩
  | a :: l => by
    obtain ⟨h1, h2⟩ := cs_lb l
    have h3 := sum_le (f := yLb adj ht a) (g := yWw adj ht a) l fun x _ => (ww_lb adj ht a x).1
    have h4 := sum_eq (f := yLb adj ht a) (g := yWw adj ht a) l fun x _ => (ww_lb adj ht a x).1
    refine ⟨by simp only [yLs', yCs]; omega, ?_⟩
    simp only [yLs', yCs, yGo, Bool.and_eq_true, List.all_eq_true]
    constructor
    · intro e
      exact ⟨fun x hx => ((ww_lb adj ht a x).2).mp (h4.mp (by omega) x hx), h2.mp (by omega)⟩
    · rintro ⟨e1, e2⟩
      rw [h2.mpr e2, h4.mpr fun x hx => ((ww_lb adj ht a x).2).mpr (e1 x hx)]
theorem lb_perm {s : List Nat} (sy : ∀ a b, a ∈ s → b ∈ s → adj a b = adj b a) : ∀ {o1 o2 : List Nat}, o1.Perm o2 → (∀ a, a ∈ o1 → a ∈ s) → yLs' adj ht o1 = yLs' adj ht o2 := by
  intro o1 o2 h
  induction h with
  | nil => intro _; rfl
  | cons a p ih =>
    intro hs
    simp only [yLs']
    rw [ih fun x hx => hs x (List.mem_cons_of_mem _ hx), (p.map (yLb adj ht a)).sum_nat]
  | swap a b l =>
    intro hs
    simp only [yLs', List.map_cons, List.sum_cons]
    have : yLb adj ht b a = yLb adj ht a b := by
      unfold yLb
      rw [sy b a (hs b List.mem_cons_self) (hs a (by simp)), Nat.min_comm]
    omega
  | trans p q ih1 ih2 =>
    intro hs
    rw [ih1 hs, ih2 fun x hx => hs x (p.mem_iff.mpr hx)]
/-- the first that costs least -/
def yCm (s : Int32 × List Nat) (o : List Nat) : Int32 × List Nat := if s.1 = -9 ∨ nI (yCs adj ht o) < s.1 then (nI (yCs adj ht o), o) else s
theorem first_least {s : List Nat} (sy : ∀ a b, a ∈ s → b ∈ s → adj a b = adj b a) (lim : ∀ o, o ∈ yPm s.length s → yCs adj ht o < 1000) : (yPm s.length s).foldl (yCm adj ht) (-9, []) = (nI (yCs adj ht (yG adj ht s.length s)), yG adj ht s.length s) := by
  have hf := yG_find adj ht s.length s rfl
  obtain ⟨hg, l1, l2, e, hno⟩ := List.find?_eq_some_iff_append.mp hf
  have inv : ∀ o, o ∈ yPm s.length s → yLs' adj ht o = yLs' adj ht s := fun o ho => lb_perm adj ht sy (yPm_perm rfl ho) fun a ha => (yPm_perm rfl ho).mem_iff.mp ha
  have hgm : yG adj ht s.length s ∈ yPm s.length s := by rw [e]; simp
  have hgc : yCs adj ht (yG adj ht s.length s) = yLs' adj ht s := by rw [((cs_lb adj ht _).2).mpr hg, inv _ hgm]
  have B : yLs' adj ht s < 1000 := by rw [← hgc]; exact lim _ hgm
  -- ahead of it all cost more
  have pre : ∀ l : List (List Nat), (∀ o, o ∈ l → o ∈ yPm s.length s ∧ yGo adj ht o = false) → ∀ st : Int32 × List Nat, (st.1 = -9 ∨ ∃ x, yLs' adj ht s < x ∧ x < 1000 ∧ st.1 = nI x) → ((l.foldl (yCm adj ht) st).1 = -9 ∨ ∃ x, yLs' adj ht s < x ∧ x < 1000 ∧ (l.foldl (yCm adj ht) st).1 = nI x) := by
    intro l
    induction l with
    | nil => intro _ st h; exact h
    | cons o l ih =>
      intro hl st h
      rw [List.foldl_cons]
      refine ih (fun o' ho' => hl o' (List.mem_cons_of_mem _ ho')) _ ?_
      obtain ⟨ho, hb⟩ := hl o List.mem_cons_self
      unfold yCm
      split
      · right
        refine ⟨yCs adj ht o, ?_, lim o ho, rfl⟩
        have h1 := (cs_lb adj ht o).1
        have h2 := (cs_lb adj ht o).2
        rw [inv o ho] at h1 h2
        have : ¬ yCs adj ht o = yLs' adj ht s := fun w => by rw [h2.mp w] at hb; exact absurd hb (by decide)
        omega
      · exact h
  have post : ∀ l : List (List Nat), (∀ o, o ∈ l → o ∈ yPm s.length s) → ∀ g, l.foldl (yCm adj ht) (nI (yLs' adj ht s), g) = (nI (yLs' adj ht s), g) := by
    intro l
    induction l with
    | nil => intro _ g; rfl
    | cons o l ih =>
      intro hl g
      rw [List.foldl_cons]
      have ho := hl o List.mem_cons_self
      have h1 := (cs_lb adj ht o).1
      rw [inv o ho] at h1
      have h2 := lim o ho
      have : yCm adj ht (nI (yLs' adj ht s), g) o = (nI (yLs' adj ht s), g) := by
        unfold yCm
        rw [if_neg]
        rintro (w | w)
        · exact nI_n9 (by omega) w
        · exact nI_nlt (by omega) (by omega) w
      rw [this]
      exact ih (fun o' ho' => hl o' (List.mem_cons_of_mem _ ho')) g
  have p1 := pre l1 (fun o ho => ⟨by rw [e]; exact List.mem_append_left _ ho, by have := hno o ho; simpa using this⟩) (-9, []) (.inl rfl)
  rw [e, List.foldl_append, List.foldl_cons]
  have step : yCm adj ht (l1.foldl (yCm adj ht) (-9, [])) (yG adj ht s.length s) = (nI (yLs' adj ht s), yG adj ht s.length s) := by
    generalize l1.foldl (yCm adj ht) (-9, []) = q at p1
    unfold yCm
    rw [hgc, if_pos]
    rcases p1 with w | ⟨x, h1, h2, w⟩
    · exact .inl w
    · right; rw [w]; exact nI_lt h1 (by omega)
  rw [step, post l2 (fun o ho => by rw [e]; exact List.mem_append_right _ (List.mem_cons_of_mem _ ho)), hgc]
end ORDER
section UPM
variable {C : zCs}
def yAdj (C : zCs) (H : zA) (w : Int32) (a b : Nat) : Bool := !decide (sBes C H b a w = 0)
def yHt (C : zCs) (a : Nat) : Nat := (sHt (C.2.2.2.1 a)).toNatClampNeg
theorem yHt_eq (C : zCs) (a : Nat) : sHt (C.2.2.2.1 a) = nI (yHt C a) ∧ yHt C a ≤ 2 := by
  obtain ⟨x, hx, e⟩ := lim_ht (C.2.2.2.1 a)
  unfold yHt
  rw [e, nI_clamp (by omega)]
  exact ⟨rfl, hx⟩
def yMen (C : zCs) (H : zA) (w : Int32) : List Nat := (List.range C.2.1).filter fun m => !decide (sIn C H m w = 0)
theorem sm_lt {H : zA} {w : Int32} {a : Nat} (h : a ∈ yMen C H w) : a < C.2.1 ∧ ¬ sIn C H a w = 0 := by
  unfold yMen at h
  rw [List.mem_filter, List.mem_range] at h
  simpa using h
theorem sm_len (k : zCk C) (H : zA) (w : Int32) : (yMen C H w).length ≤ 6 := Nat.le_trans (List.length_filter_le _ _) (by rw [List.length_range]; exact k.2.1)
end UPM
section ORD
variable {C : zCs} {H H' : zA}
theorem adj_c (e : ∀ m, m < C.2.1 → H' m = H m) {a b : Nat} (ha : a < C.2.1) (hb : b < C.2.1) (w : Int32) : yAdj C H' w a b = yAdj C H w a b := by
  unfold yAdj
  rw [sBes_c (e b hb) (e a ha)]
theorem sm_c (e : ∀ m, m < C.2.1 → H' m = H m) (w : Int32) : yMen C H' w = yMen C H w := by
  unfold yMen
  refine List.filter_congr fun m hm => ?_
  rw [List.mem_range] at hm
  rw [sIn_c (e m hm)]
theorem ww_c {adj adj' : Nat → Nat → Bool} {ht : Nat → Nat} {a b : Nat} (e : adj a b = adj' a b) : yWw adj ht a b = yWw adj' ht a b := by
  unfold yWw
  rw [e]
theorem cs_c {adj adj' : Nat → Nat → Bool} {ht : Nat → Nat} : ∀ {o : List Nat}, (∀ a b, a ∈ o → b ∈ o → adj a b = adj' a b) → yCs adj ht o = yCs adj' ht o
  | [], _ => rfl
  | a :: l, h => by
    rw [yCs, yCs, cs_c (o := l) fun x y hx hy => h x y (List.mem_cons_of_mem _ hx) (List.mem_cons_of_mem _ hy)]
    congr 2
    exact List.map_congr_left fun x hx => ww_c (h a x List.mem_cons_self (List.mem_cons_of_mem _ hx))
theorem ok_c {adj adj' : Nat → Nat → Bool} {ht : Nat → Nat} {a b : Nat} (e : adj a b = adj' a b) : yOk adj ht a b = yOk adj' ht a b := by
  unfold yOk
  rw [e]
theorem all_c {p q : Nat → Bool} {s : List Nat} (h : ∀ x, x ∈ s → p x = q x) : s.all p = s.all q := by
  rw [Bool.eq_iff_iff, List.all_eq_true, List.all_eq_true]
  exact ⟨fun w x hx => (h x hx).symm.trans (w x hx), fun w x hx => (h x hx).trans (w x hx)⟩
theorem find_c {p q : Nat → Bool} : ∀ {s : List Nat}, (∀ x, x ∈ s → p x = q x) → s.find? p = s.find? q
  | [], _ => rfl
  | a :: s, h => by
    rw [List.find?_cons, List.find?_cons, h a List.mem_cons_self, find_c (s := s) fun x hx => h x (List.mem_cons_of_mem _ hx)]
theorem yG_c {adj adj' : Nat → Nat → Bool} {ht : Nat → Nat} : ∀ {n : Nat} {s : List Nat}, (∀ a b, a ∈ s → b ∈ s → adj a b = adj' a b) → yG adj ht n s = yG adj' ht n s
  | 0, _, _ => rfl
  | n + 1, s, h => by
    rw [yG, yG]
    have e : (s.find? fun a => s.all (yOk adj ht a)) = s.find? fun a => s.all (yOk adj' ht a) := find_c fun x hx => all_c fun y hy => ok_c (h x y hx hy)
    rw [e]
    cases s.find? fun a => s.all (yOk adj' ht a) with
    | none => rfl
    | some m =>
      dsimp only
      rw [yG_c (n := n) (s := s.erase m) fun a b ha hb => h a b (List.mem_of_mem_erase ha) (List.mem_of_mem_erase hb)]
theorem yG_perm {adj : Nat → Nat → Bool} {ht : Nat → Nat} {n : Nat} {s : List Nat} (h : s.length = n) : (yG adj ht n s).Perm s := yPm_perm h (List.mem_of_find?_eq_some (yG_find adj ht n s h))
theorem ite_sy (P Q : Prop) [Decidable P] [Decidable Q] : ((if P then (1 : Int32) else if Q then 1 else 0) = 0) ↔ ((if Q then (1 : Int32) else if P then 1 else 0) = 0) := by
  by_cases p : P <;> by_cases q : Q <;> simp [p, q]
theorem in_h {m : Nat} {w : Int32} (i : ¬ sIn C H m w = 0) : ¬ H m = -9 := fun q => i (by unfold sIn; rw [if_pos q])
theorem bes_sy {a b : Nat} {w : Int32} (ia : ¬ sIn C H a w = 0) (ib : ¬ sIn C H b w = 0) : sBes C H a b w = 0 ↔ sBes C H b a w = 0 := by
  have e : ∀ x y : Int32, x = y + 1 ↔ y = x - 1 := fun x y => ⟨fun q => by rw [q, Int32.add_sub_cancel], fun q => by rw [q, Int32.sub_add_cancel]⟩
  unfold sBes
  rw [if_neg (in_h ib), if_neg ia, if_neg (in_h ia), if_neg ib]
  simp only [i32_sub1, i32_subm]
  have f1 : (H b = H a + 1) = (H a = H b - 1) := propext (e (H b) (H a))
  have f2 : (H b = H a - 1) = (H a = H b + 1) := propext (e (H a) (H b)).symm
  simp only [f1, f2]
  exact ite_sy _ _
theorem adj_sy {w : Int32} {a b : Nat} (ha : a ∈ yMen C H w) (hb : b ∈ yMen C H w) : yAdj C H w a b = yAdj C H w b a := by
  unfold yAdj
  have := bes_sy (sm_lt hb).2 (sm_lt ha).2
  rw [Bool.eq_iff_iff]
  simp only [Bool.not_eq_true', decide_eq_false_iff_not]
  exact not_congr this
theorem ww_lim {adj : Nat → Nat → Bool} {ht : Nat → Nat} (h : ∀ b, ht b ≤ 2) (a : Nat) : ∀ l : List Nat, (l.map (yWw adj ht a)).sum ≤ 3 * l.length
  | [] => Nat.zero_le _
  | b :: l => by
    have i := ww_lim (adj := adj) h a l
    have hb := h b
    rw [List.map_cons, List.sum_cons, List.length_cons]
    have : yWw adj ht a b ≤ 3 := by
      unfold yWw
      split <;> omega
    omega
theorem cs_lim {adj : Nat → Nat → Bool} {ht : Nat → Nat} (h : ∀ b, ht b ≤ 2) : ∀ l : List Nat, l.length ≤ 6 → yCs adj ht l ≤ 18 * l.length
  | [], _ => Nat.zero_le _
  | a :: l, hl => by
    rw [List.length_cons] at hl
    have i := cs_lim (adj := adj) h l (by omega)
    have s := ww_lim (adj := adj) h a l
    rw [yCs, List.length_cons]
    omega
theorem cs_1000 (k : zCk C) (w : Int32) {o : List Nat} (ho : o.length ≤ 6) : yCs (yAdj C H w) (yHt C) o < 1000 := by
  have := cs_lim (adj := yAdj C H w) (ht := yHt C) (fun b => (yHt_eq C b).2) o ho
  omega
end ORD
section UPC
variable {r : zE} {c0 c1 c2 : Nat} {I : Nat → Int32} {J : Nat → Int64} {Q : Nat → Nat → Int32} {N A : zBr} {Ga Va : Nat → Int32} {t : zH} {C : zCs} {c n : Nat} {x : Nat} {F : zBr → zH} {B : zBr}
def yUp (C : zCs) (H : zA) (w : Int32) : List Nat := yG (yAdj C H w) (yHt C) (yMen C H w).length (yMen C H w)
theorem up_len (C : zCs) (H : zA) (w : Int32) : (yUp C H w).length = (yMen C H w).length := (yG_perm rfl).length_eq
theorem bes_in {H : zA} {q m : Nat} {w : Int32} (h : ¬ sBes C H q m w = 0) : ¬ sIn C H q w = 0 := fun e => h (by
  unfold sBes
  rw [if_pos e, ite_self])
theorem b_hb10 (b : zBx r x c C F) (k : zCk C) (E : zEk r) {m : Nat} (hm : m < C.2.1) (w : Int32) : ∀ n j, j + n = C.2.1 → zev r i_X0_hasBulkierNeighbour 10 [some (.ref x), some (.int (nI m)), some (.int w), some (.int (sBe C B.1 m w)), some (.int (nI j))] [] (F B) = some (some (.int (if ((List.range' j n).filter fun q => !decide (sIn C B.1 q w = 0)).all (yOk (yAdj C B.1 w) (yHt C) m) = true then 0 else 1)), F B)
  | 0, j, e => by
    obtain ⟨v, o, g0, -⟩ := id (b B)
    obtain ⟨-, -, v0, -⟩ := id v
    refine (E_X0_hasBulkierNeighbour_10 ..).trans ?_
    rw [show j = C.2.1 by omega]
    simp only [g0, v0, Option.bind_some, if_neg (nI_nlt6 k), List.range'_zero, List.filter_nil, List.all_nil, if_true]
  | n + 1, j, e => by
    obtain ⟨v, o, g0, -⟩ := id (b B)
    obtain ⟨-, -, v0, -⟩ := id v
    have hj : j < C.2.1 := by omega
    have ih := b_hb10 b k E hm w n (j + 1) (by omega)
    refine (E_X0_hasBulkierNeighbour_10 ..).trans ?_
    simp only [g0, v0, v.1, Option.bind_some, if_pos (nI_lt6 k hj), sBe_bit k hj, nI_1, if_true, cr_bulk v k E hj, cr_bulk v k E hm, zcI_some, ih]
    rw [List.range'_succ]
    by_cases q : sBes C B.1 j m w = 0
    · rw [if_pos q]
      have ok : yOk (yAdj C B.1 w) (yHt C) m j = true := by simp [yOk, yAdj, q]
      by_cases p : sIn C B.1 j w = 0
      · simp only [List.filter_cons, p, decide_true, Bool.not_true, Bool.false_eq_true, if_false]
      · simp only [List.filter_cons, p, decide_false, Bool.not_false, if_true, List.all_cons, ok, Bool.true_and]
    · rw [if_neg q]
      have p := bes_in q
      obtain ⟨a1, a2⟩ := yHt_eq C j
      obtain ⟨b1, b2⟩ := yHt_eq C m
      simp only [List.filter_cons, p, decide_false, Bool.not_false, if_true, List.all_cons, a1, b1]
      by_cases z : yHt C m < yHt C j
      · have ok : yOk (yAdj C B.1 w) (yHt C) m j = false := by simp [yOk, yAdj, q]; omega
        rw [if_pos (nI_lt z (by omega)), ok, Bool.false_and]
        rfl
      · have ok : yOk (yAdj C B.1 w) (yHt C) m j = true := by simp [yOk, yAdj, q]; omega
        rw [if_neg (nI_nlt (by omega) (by omega)), ok, Bool.true_and]
theorem sm_range (C : zCs) (H : zA) (w : Int32) : yMen C H w = (List.range' 0 C.2.1).filter fun q => !decide (sIn C H q w = 0) := by
  unfold yMen
  rw [List.range_eq_range']
theorem b_bulkier (b : zBx r x c C F) (k : zCk C) (E : zEk r) (g : zCG C B.1 B.2.1) {m : Nat} (hm : m < C.2.1) (w : Int32) : zev r i_X0_hasBulkierNeighbour 0 [some (.ref x), some (.int (nI m)), some (.int w), none, none] [] (F B) = some (some (.int (if (yMen C B.1 w).all (yOk (yAdj C B.1 w) (yHt C) m) = true then 0 else 1)), F B) := by
  obtain ⟨v, o, -⟩ := id (b B)
  simp only [E_X0_hasBulkierNeighbour_0, o, if_true, b_neigh b k g hm, zcI_some, sm_range]
  exact b_hb10 b k E hm w C.2.1 0 (by omega)
theorem b_ftg2 (b : zBx r x c C F) (k : zCk C) (E : zEk r) (g : zCG C B.1 B.2.1) (w : Int32) : ∀ n j, j + n = C.2.1 → zev r i_X0_firstToGetUp 2 [some (.ref x), some (.int w), some (.int (nI j))] [] (F B) = some (some (.int (match ((List.range' j n).filter fun q => !decide (sIn C B.1 q w = 0)).find? (fun a => (yMen C B.1 w).all (yOk (yAdj C B.1 w) (yHt C) a)) with | some m => nI m | none => -9)), F B)
  | 0, j, e => by
    obtain ⟨v, o, g0, -⟩ := id (b B)
    obtain ⟨-, -, v0, -⟩ := id v
    refine (E_X0_firstToGetUp_2 ..).trans ?_
    rw [show j = C.2.1 by omega]
    simp only [g0, v0, Option.bind_some, if_neg (nI_nlt6 k), List.range'_zero, List.filter_nil, List.find?_nil]
  | n + 1, j, e => by
    obtain ⟨v, o, g0, -⟩ := id (b B)
    obtain ⟨-, -, v0, -⟩ := id v
    have hj : j < C.2.1 := by omega
    have ih := b_ftg2 b k E g w n (j + 1) (by omega)
    refine (E_X0_firstToGetUp_2 ..).trans ?_
    simp only [g0, v0, o, Option.bind_some, if_pos (nI_lt6 k hj), nI_1, if_true, b_in b k hj, b_bulkier b k E g hj, zcI_some, ih]
    rw [List.range'_succ]
    by_cases p : sIn C B.1 j w = 0
    · simp only [List.filter_cons, p, decide_true, Bool.not_true, Bool.false_eq_true, if_false, if_true]
    · simp only [List.filter_cons, p, decide_false, Bool.not_false, if_true, if_false, List.find?_cons]
      by_cases q : (yMen C B.1 w).all (yOk (yAdj C B.1 w) (yHt C) j) = true
      · simp only [q, if_true]
      · simp only [q, Bool.false_eq_true, if_false, i01, if_true]
theorem b_first2 (b : zBx r x c C F) (k : zCk C) (E : zEk r) (g : zCG C B.1 B.2.1) (w : Int32) : zev r i_X0_firstToGetUp 0 [some (.ref x), some (.int w), none] [] (F B) = some (some (.int (match (yMen C B.1 w).find? (fun a => (yMen C B.1 w).all (yOk (yAdj C B.1 w) (yHt C) a)) with | some m => nI m | none => -9)), F B) := by
  rw [E_X0_firstToGetUp_0]
  have := b_ftg2 b k E g w C.2.1 0 (by omega)
  rw [← sm_range] at this
  exact this
theorem b_way13 (b : zBx r x c C F) (k : zCk C) (E : zEk r) (m : Nat) (w : Int32) : ∀ n j z, j + n = C.2.1 → zev r i_X0_inTheWayOf 13 [some (.ref x), some (.int (nI m)), some (.int w), some (.int (sBe C B.1 m w)), some (.int (nI z)), some (.int (nI j))] [] (F B) = some (some (.int (nI (z + (((List.range' j n).filter fun q => !decide (sIn C B.1 q w = 0)).map (yWw (yAdj C B.1 w) (yHt C) m)).sum))), F B)
  | 0, j, z, e => by
    obtain ⟨v, o, g0, -⟩ := id (b B)
    obtain ⟨-, -, v0, -⟩ := id v
    refine (E_X0_inTheWayOf_13 ..).trans ?_
    rw [show j = C.2.1 by omega]
    simp only [g0, v0, Option.bind_some, if_neg (nI_nlt6 k), List.range'_zero, List.filter_nil, List.map_nil, List.sum_nil, Nat.add_zero]
  | n + 1, j, z, e => by
    obtain ⟨v, o, g0, -⟩ := id (b B)
    obtain ⟨-, -, v0, -⟩ := id v
    have hj : j < C.2.1 := by omega
    refine (E_X0_inTheWayOf_13 ..).trans ?_
    simp only [g0, v0, v.1, Option.bind_some, if_pos (nI_lt6 k hj), sBe_bit k hj, nI_1, if_true, cr_bulk v k E hj, zcI_some]
    rw [List.range'_succ]
    by_cases q : sBes C B.1 j m w = 0
    · rw [if_pos q, b_way13 b k E m w n (j + 1) z (by omega)]
      have wz : yWw (yAdj C B.1 w) (yHt C) m j = 0 := by simp [yWw, yAdj, q]
      by_cases p : sIn C B.1 j w = 0
      · simp only [List.filter_cons, p, decide_true, Bool.not_true, Bool.false_eq_true, if_false]
      · simp only [List.filter_cons, p, decide_false, Bool.not_false, if_true, List.map_cons, List.sum_cons, wz, Nat.zero_add]
    · have p := bes_in q
      have wz : yWw (yAdj C B.1 w) (yHt C) m j = 1 + yHt C j := by simp [yWw, yAdj, q]
      rw [if_neg q, (yHt_eq C j).1, show (1 : Int32) = nI 1 from rfl, nI_add, nI_add, b_way13 b k E m w n (j + 1) _ (by omega)]
      simp only [List.filter_cons, p, decide_false, Bool.not_false, if_true, List.map_cons, List.sum_cons, wz, Nat.add_assoc]
theorem b_way (b : zBx r x c C F) (k : zCk C) (E : zEk r) (g : zCG C B.1 B.2.1) {m : Nat} (hm : m < C.2.1) (w : Int32) : zev r i_X0_inTheWayOf 0 [some (.ref x), some (.int (nI m)), some (.int w), none, none, none] [] (F B) = some (some (.int (nI ((yMen C B.1 w).map (yWw (yAdj C B.1 w) (yHt C) m)).sum)), F B) := by
  obtain ⟨v, o, -⟩ := id (b B)
  simp only [E_X0_inTheWayOf_0, o, if_true, b_neigh b k g hm, zcI_some]
  have := b_way13 (B := B) b k E m w C.2.1 0 0 (by omega)
  rw [← sm_range, Nat.zero_add] at this
  exact this
/-- one who has got up -/
theorem sm_up {H : zA} {w : Int32} {m : Nat} : yMen C (upd H m (-9)) w = (yMen C H w).erase m := by
  have nd : (yMen C H w).Nodup := List.Pairwise.filter _ List.nodup_range
  rw [nd.erase_eq_filter]
  unfold yMen
  rw [List.filter_filter]
  refine List.filter_congr fun q _ => ?_
  by_cases e : q = m
  · subst e
    have : sIn C (upd H q (-9)) q w = 0 := by
      unfold sIn
      rw [upd_s, if_pos rfl]
    simp [this]
  · rw [sIn_c (show upd H m (-9) q = H q from upd_n e)]
    simp [e]
theorem adj_up {H : zA} {w : Int32} {m a b : Nat} (ha : a ≠ m) (hb : b ≠ m) : yAdj C (upd H m (-9)) w a b = yAdj C H w a b := by
  unfold yAdj
  rw [sBes_c (show upd H m (-9) b = H b from upd_n hb) (show upd H m (-9) a = H a from upd_n ha)]
theorem ww_self {H : zA} {w : Int32} {m : Nat} : yWw (yAdj C H w) (yHt C) m m = 0 := by
  simp [yWw, yAdj, sBes_self]
theorem many_sm (k : zCk C) (H : zA) (w : Int32) : sMany C H w = nI (yMen C H w).length := by
  unfold sMany
  have := zfd_inv (f := fun (a : Int32) m => if sIn C H m w = 0 then a else a + 1) (fun j a => a = nI ((List.range j).filter fun m => !decide (sIn C H m w = 0)).length) (j := 0) (n := C.2.1) (s := 0) rfl (fun a i _ _ h => by
    rw [h, List.range_succ, List.filter_append]
    by_cases q : sIn C H i w = 0
    · simp only [q, if_true, List.filter_cons, decide_true, Bool.not_true, Bool.false_eq_true, if_false, List.filter_nil, List.append_nil]
    · simp only [q, if_false, List.filter_cons, decide_false, Bool.not_false, if_true, List.filter_nil, List.length_append, List.length_cons, List.length_nil, Nat.zero_add, nI_1])
  rw [Nat.zero_add] at this
  exact this
theorem k_up66 (E : zEk r) (k : zCk C) (hC : zCt r t c C) {j : Nat} (hj : j < 6) (w a : Int32) {n0 : Nat} (h6 : n0 ≤ 6) (hI : I (6 + j) = nI n0) : ∀ (n i z : Nat) (A : zBr) (f : zA), (yMen C A.1 w).length = n → i + n = n0 → zCG C A.1 A.2.1 → ∃ A' f', zev r i_X5_up 66 [some (.ref (r.1 + 0)), some (.int w), some (.int a), some (.ref (r.1 + 23 + 2 * j)), some (.int (nI n0)), some (.int (nI z)), some (.int (nI i)), none] [] (zmk r c c (c) I J (va_up Q (13 + j) f) N (A) Ga Va t) = some (some (.int (nI (z + yCs (yAdj C A.1 w) (yHt C) (yUp C A.1 w)))), (zmk r c c (c) I J (va_up Q (13 + j) f') N (A') Ga Va t)) ∧ (∀ q, q < i → f' q = f q) ∧ ∀ q, q < n → f' (i + q) = nI ((yUp C A.1 w).getD q 0)
  | 0, i, z, A, f, hl, hi, g => by
    refine ⟨A, f, ?_, fun _ _ => rfl, fun q hq => absurd hq (Nat.not_lt_zero _)⟩
    refine (E_X5_up_66 ..).trans ?_
    rw [show i = n0 by omega, if_neg (nI_nlt (Nat.le_refl _) (by omega))]
    have : yUp C A.1 w = [] := by unfold yUp; rw [hl]; rfl
    rw [this]
    rfl
  | n + 1, i, z, A, f, hl, hi, g => by
    have k2 := k.2.1
    have ax := aBx (r := r) (c0 := c) (c1 := c) (I := I) (J := J) (Q := va_up Q (13 + j) f) (N := N) (Ga := Ga) (Va := Va) hC
    obtain ⟨m, hf, hm⟩ := yG_some (yAdj C A.1 w) (yHt C) (s := yMen C A.1 w) (by intro q; rw [q] at hl; simp at hl)
    have hm2 := (sm_lt hm).1
    have e1 := b_first2 ax k E (B := A) g w
    rw [hf] at e1
    have e2 := b_way ax k E (B := A) g hm2 w
    have es := wr_set (r := r) (c0 := c) (c1 := c) (c2 := c) (I := I) (J := J) (Q := va_up Q (13 + j) f) (N := N) (A := A) (Ga := Ga) (Va := Va) (t := t) hj (n := n0) (k := i) hI (by omega) (by omega) (nI m)
    rw [va_same, bx_uu] at es
    have ax2 := aBx (r := r) (c0 := c) (c1 := c) (I := I) (J := J) (Q := va_up Q (13 + j) (upd f i (nI m))) (N := N) (Ga := Ga) (Va := Va) hC
    obtain ⟨G', e3, g'⟩ := b_move ax2 k (B := A) g hm2 (h := -9) (.inl (.inl rfl))
    have nd : (yMen C A.1 w).Nodup := List.Pairwise.filter _ List.nodup_range
    have hl' : (yMen C (upd A.1 m (-9)) w).length = n := by rw [sm_up, List.length_erase_of_mem hm, hl]; rfl
    obtain ⟨A', f', e4, h1, h2⟩ := k_up66 E k hC hj w a h6 hI n (i + 1) (z + ((yMen C A.1 w).map (yWw (yAdj C A.1 w) (yHt C) m)).sum) (upd A.1 m (-9), G', A.2.2.1, A.2.2.2) (upd f i (nI m)) hl' (by omega) g'
    -- the order without him
    have eG : yUp C (upd A.1 m (-9)) w = yG (yAdj C A.1 w) (yHt C) n ((yMen C A.1 w).erase m) := by
      unfold yUp
      rw [hl', sm_up]
      refine yG_c fun a b ha hb => ?_
      rw [nd.mem_erase_iff] at ha hb
      exact adj_up ha.1 hb.1
    have eU : yUp C A.1 w = m :: yUp C (upd A.1 m (-9)) w := by
      rw [eG]
      unfold yUp
      rw [hl, yG, hf]
    have pm : (yUp C (upd A.1 m (-9)) w).Perm ((yMen C A.1 w).erase m) := by
      rw [eG]
      exact yG_perm (by rw [List.length_erase_of_mem hm, hl]; rfl)
    have eS : ((yMen C A.1 w).map (yWw (yAdj C A.1 w) (yHt C) m)).sum = ((yUp C (upd A.1 m (-9)) w).map (yWw (yAdj C A.1 w) (yHt C) m)).sum := by
      rw [((List.perm_cons_erase hm).map (yWw (yAdj C A.1 w) (yHt C) m)).sum_nat, (pm.map (yWw (yAdj C A.1 w) (yHt C) m)).sum_nat, List.map_cons, List.sum_cons, ww_self, Nat.zero_add]
    have eC : yCs (yAdj C (upd A.1 m (-9)) w) (yHt C) (yUp C (upd A.1 m (-9)) w) = yCs (yAdj C A.1 w) (yHt C) (yUp C (upd A.1 m (-9)) w) := cs_c fun a b ha hb => by
      have ha := pm.mem_iff.mp ha
      have hb := pm.mem_iff.mp hb
      rw [nd.mem_erase_iff] at ha hb
      exact adj_up ha.1 hb.1
    refine ⟨A', f', ?_, fun q hq => (h1 q (by omega)).trans (upd_n (by omega)), fun q hq => ?_⟩
    · refine (E_X5_up_66 ..).trans ?_
      simp only [if_pos (nI_lt (show i < n0 by omega) (show n0 < 2 ^ 31 by omega)), mo_0, mg_0_0, mg_0_1, mg_0_2, mg_0_3, mg_0_4, mg_0_5, mg_0_6, mg_0_7, mg_0_8, mg_0_9, mg_0_10, mg_0_11, mo_14, (hC ..).1, Option.bind_some, if_true, e1, zcI_some, cr_man (hC ..), zhk_in hm2 (show C.2.1 < 2 ^ 31 by omega), i01, if_false, e2, mo_r hj, es, zcV_some, e3, nI_1, nI_add]
      refine e4.trans ?_
      dsimp only
      rw [eC, eU, yCs, eS, Nat.add_assoc]
    · rw [eU]
      cases q with
      | zero =>
        rw [Nat.add_zero, h1 i (by omega), upd_s]
        rfl
      | succ q =>
        have := h2 q (by omega)
        rw [show i + (q + 1) = i + 1 + q by omega, this]
        rfl
end UPC
section CALLS12
variable {r : zE} {C : zCs} {d : Nat} {M : Nat → zDk} {K : Nat → Option (Nat × (Nat → zDk))} {W Tx : Nat → Option (List Int32)} {ta : Int32} {tu tl : Int64} {Ga Va : zA} {n : Nat} {h : zH}
theorem ck_up (E : zEk r) (m0 : 0 < C.2.1) {j w : Nat} (hj : j < 6) (hw : w < 3) (st : zSt r C d M K W Tx ta tu tl Ga Va n h) : ∃ h', zev r i_X5_up 0 [some (.ref (r.1 + 0)), some (.int (nI w)), some (.int (nI j)), none, none, none, none, none] [] h = some (some (.int (nI (yCs (yAdj C (M d).1 (nI w)) (yHt C) (yUp C (M d).1 (nI w))))), h') ∧ zSt r C d M K (va_up W j (some ((yUp C (M d).1 (nI w)).map nI))) Tx ta tu tl Ga Va n h' := by
  obtain ⟨c, c2, I, J, Q, N, A, t, rfl, iv, t1, t2⟩ := st
  obtain ⟨k, hC, no, de, -⟩ := id iv
  have k2 := k.2.1
  have m1 : ¬ nI C.2.1 = 0 := nI_ne0 m0 (by omega)
  have e : zhk 6 (nI j) = 1 := zhk_in hj (by decide)
  have g : zhk 3 (nI w) = 1 := zhk_in hw (by decide)
  have ax := aBx (r := r) (c0 := c) (c1 := c) (I := I) (J := J) (Q := Q) (N := N) (Ga := Ga) (Va := Va) hC
  have ch : ∀ m, m < C.2.1 → (yCp N A).1 m = (M d).1 m := fun m hm => (cp_h k N A m hm).trans (de_h de m hm)
  have es : yMen C (yCp N A).1 (nI w) = yMen C (M d).1 (nI w) := sm_c ch (nI w)
  have n6 := sm_len k (M d).1 (nI w)
  have em := b_many ax k (B := yCp N A) (nI w)
  rw [many_sm k, es] at em
  obtain ⟨A', f, e1, -, h1⟩ := k_up66 (J := J) (Q := Q) (N := N) (Ga := Ga) (Va := Va) (I := va_up I (6 + j) (nI (yMen C (M d).1 (nI w)).length)) E k hC hj (nI w) (nI j) n6 va_same (yMen C (M d).1 (nI w)).length 0 0 (yCp N A) (fun i => if i < 60 then 0 else Q (13 + j) i) (by rw [es]) (by omega) (cp_cg k no.1 A)
  have eu : yUp C (yCp N A).1 (nI w) = yUp C (M d).1 (nI w) := by
    unfold yUp
    rw [es]
    exact yG_c fun a b ha hb => adj_c ch (sm_lt ha).1 (sm_lt hb).1 (nI w)
  have ec : yCs (yAdj C (yCp N A).1 (nI w)) (yHt C) (yUp C (M d).1 (nI w)) = yCs (yAdj C (M d).1 (nI w)) (yHt C) (yUp C (M d).1 (nI w)) := cs_c fun a b ha hb => by
    have ha := (yG_perm rfl).mem_iff.mp ha
    have hb := (yG_perm rfl).mem_iff.mp hb
    exact adj_c ch (sm_lt ha).1 (sm_lt hb).1 (nI w)
  rw [eu, ec, Nat.zero_add] at e1
  rw [eu] at h1
  refine ⟨(zmk r c c (c) (va_up I (6 + j) (nI (yMen C (M d).1 (nI w)).length)) J (va_up Q (13 + j) f) N (A') Ga Va t), ?_, st_mk (iv_row iv hj (rw_map (up_len C (M d).1 (nI w)) (by omega) fun i hi => ?_)) t1 t2⟩
  · simp only [E_X5_up_0, mo_0, mg_0_0, mg_0_1, mg_0_2, mg_0_3, mg_0_4, mg_0_5, mg_0_6, mg_0_7, mg_0_8, mg_0_9, mg_0_10, mg_0_11, if_true, k_rowAt, e, i01, if_false, zcQ_ref, nI_clamp (show j < 2 ^ 31 by omega), k_when, g, zcI_some, (hC ..).2.2.1, Option.bind_some, m1, mo_14, a_copy, zcV_some, em, mo_r hj, wr_renew hj (show (yMen C (M d).1 (nI w)).length ≤ 60 by omega)]
    exact e1
  · have := h1 i hi
    rwa [Nat.zero_add] at this
end CALLS12
