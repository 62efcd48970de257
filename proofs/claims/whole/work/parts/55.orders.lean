/-! ORDERS as lists: all of them; the first that costs least -/
def yPm : Nat → List Nat → List (List Nat)
  | 0, _ => [[]]
  | n + 1, s => s.flatMap fun a => (yPm n (s.erase a)).map (a :: ·)
section ORDER
variable (adj : Nat → Nat → Bool) (ht : Nat → Nat)
/-- of two, the second behind the first costs no more than need be -/
def yOk (a k : Nat) : Bool := !adj a k || decide (ht k ≤ ht a)
def yGo : List Nat → Bool
  | [] => true
  | a :: l => l.all (yOk adj ht a) && yGo l
/-- always the first that has no bulkier one beside it -/
def yG : Nat → List Nat → List Nat
  | 0, _ => []
  | n + 1, s => match s.find? fun a => s.all (yOk adj ht a) with
    | some m => m :: yG n (s.erase m)
    | none => []
def yWw (a b : Nat) : Nat := if adj a b = true then 1 + ht b else 0
def yCs : List Nat → Nat
  | [] => 0
  | a :: l => (l.map (yWw adj ht a)).sum + yCs l
def yLb (a b : Nat) : Nat := if adj a b = true then 1 + min (ht a) (ht b) else 0
def yLs' : List Nat → Nat
  | [] => 0
  | a :: l => (l.map (yLb adj ht a)).sum + yLs' l
theorem yPm_perm : ∀ {n : Nat} {s o : List Nat}, s.length = n → o ∈ yPm n s → o.Perm s
  | 0, s, o, hl, h => by
    simp [yPm] at h
    subst h
    rw [List.length_eq_zero_iff.mp hl]
  | n + 1, s, o, hl, h => by
    simp only [yPm, List.mem_flatMap, List.mem_map] at h
    obtain ⟨a, ha, l, hl2, rfl⟩ := h
    have := yPm_perm (by rw [List.length_erase_of_mem ha]; omega) hl2
    exact (List.Perm.cons a this).trans (List.perm_cons_erase ha).symm
theorem findSome_ite {α β : Type} {p : α → Bool} {g : α → β} : ∀ l : List α, l.findSome? (fun a => if p a = true then some (g a) else none) = (l.find? p).map g
  | [] => rfl
  | a :: l => by
    rw [List.findSome?_cons, List.find?_cons]
    by_cases h : p a = true
    · simp [h]
    · simp only [h, if_false]
      exact findSome_ite l
theorem all_perm {p : Nat → Bool} {l s : List Nat} (h : l.Perm s) : l.all p = s.all p := by
  rw [Bool.eq_iff_iff, List.all_eq_true, List.all_eq_true]
  exact ⟨fun q x hx => q x (h.mem_iff.mpr hx), fun q x hx => q x (h.mem_iff.mp hx)⟩
theorem yG_some {s : List Nat} (h : s ≠ []) : ∃ m, (s.find? fun a => s.all (yOk adj ht a)) = some m ∧ m ∈ s := by
  have mx : ∀ s : List Nat, s ≠ [] → ∃ m, m ∈ s ∧ ∀ k, k ∈ s → ht k ≤ ht m := by
    intro s
    induction s with
    | nil => intro h; exact absurd rfl h
    | cons a s ih =>
      intro _
      by_cases e : s = []
      · subst e
        exact ⟨a, by simp, fun k hk => by simp at hk; subst hk; exact Nat.le_refl _⟩
      · obtain ⟨m, h1, h2⟩ := ih e
        by_cases q : ht a ≤ ht m
        · exact ⟨m, List.mem_cons_of_mem _ h1, fun k hk => by
            rcases List.mem_cons.mp hk with w | w
            · subst w; exact q
            · exact h2 k w⟩
        · exact ⟨a, List.mem_cons_self, fun k hk => by
            rcases List.mem_cons.mp hk with w | w
            · subst w; exact Nat.le_refl _
            · have := h2 k w; omega⟩
  obtain ⟨m, h1, h2⟩ := mx s h
  cases e : s.find? fun a => s.all (yOk adj ht a) with
  | some q => exact ⟨q, rfl, List.mem_of_find?_eq_some e⟩
  | none =>
    have := List.find?_eq_none.mp e m h1
    exfalso
    apply this
    rw [List.all_eq_true]
    intro k hk
    simp [yOk, h2 k hk]
theorem yG_find : ∀ (n : Nat) (s : List Nat), s.length = n → (yPm n s).find? (yGo adj ht) = some (yG adj ht n s)
  | 0, s, _ => rfl
  | n + 1, s, hl => by
    have key : ∀ a, a ∈ s → ((yPm n (s.erase a)).map (a :: ·)).find? (yGo adj ht) = if s.all (yOk adj ht a) = true then some (a :: yG adj ht n (s.erase a)) else none := fun a ha => by
      have hle : (s.erase a).length = n := by rw [List.length_erase_of_mem ha]; omega
      have e1 : s.all (yOk adj ht a) = (s.erase a).all (yOk adj ht a) := by
        rw [all_perm (List.perm_cons_erase ha), List.all_cons]
        have : yOk adj ht a a = true := by simp [yOk]
        rw [this, Bool.true_and]
      have ih := yG_find n (s.erase a) hle
      rw [List.find?_map]
      have e2 : (yPm n (s.erase a)).find? (yGo adj ht ∘ fun x => a :: x) = if s.all (yOk adj ht a) = true then (yPm n (s.erase a)).find? (yGo adj ht) else none := by
        by_cases q : s.all (yOk adj ht a) = true
        · rw [if_pos q]
          have : ∀ L : List (List Nat), (∀ o, o ∈ L → o.Perm (s.erase a)) → L.find? (yGo adj ht ∘ fun x => a :: x) = L.find? (yGo adj ht) := by
            intro L
            induction L with
            | nil => intro _; rfl
            | cons o L ihL =>
              intro hL
              have eo : (yGo adj ht ∘ fun x => a :: x) o = yGo adj ht o := by
                show (o.all (yOk adj ht a) && yGo adj ht o) = yGo adj ht o
                rw [all_perm (hL o List.mem_cons_self), ← e1, q, Bool.true_and]
              rw [List.find?_cons, List.find?_cons, eo, ihL fun o' ho' => hL o' (List.mem_cons_of_mem _ ho')]
          exact this _ fun o ho => yPm_perm hle ho
        · rw [if_neg q, List.find?_eq_none]
          intro o ho w
          apply q
          have : (o.all (yOk adj ht a) && yGo adj ht o) = true := w
          rw [Bool.and_eq_true] at this
          rw [e1, ← all_perm (yPm_perm hle ho)]
          exact this.1
      rw [e2]
      by_cases q : s.all (yOk adj ht a) = true
      · rw [if_pos q, if_pos q, ih]; rfl
      · rw [if_neg q, if_neg q]; rfl
    rw [yPm, List.find?_flatMap]
    have e3 : s.findSome? (fun a => ((yPm n (s.erase a)).map (a :: ·)).find? (yGo adj ht)) = s.findSome? fun a => if s.all (yOk adj ht a) = true then some (a :: yG adj ht n (s.erase a)) else none := by
      have : ∀ l : List Nat, (∀ a, a ∈ l → a ∈ s) → l.findSome? (fun a => ((yPm n (s.erase a)).map (a :: ·)).find? (yGo adj ht)) = l.findSome? fun a => if s.all (yOk adj ht a) = true then some (a :: yG adj ht n (s.erase a)) else none := by
        intro l
        induction l with
        | nil => intro _; rfl
        | cons a l ih =>
          intro h
          rw [List.findSome?_cons, List.findSome?_cons, key a (h a List.mem_cons_self), ih fun b hb => h b (List.mem_cons_of_mem _ hb)]
      exact this s fun _ h => h
    rw [e3, findSome_ite (p := fun a => s.all (yOk adj ht a)), yG]
    obtain ⟨m, hm, -⟩ := yG_some adj ht (s := s) (by intro q; rw [q] at hl; simp at hl)
    rw [hm]
    rfl
theorem sum_le {f g : Nat → Nat} : ∀ l : List Nat, (∀ x, x ∈ l → f x ≤ g x) → (l.map f).sum ≤ (l.map g).sum
  | [], _ => Nat.le_refl _
  | a :: l, h => by
    rw [List.map_cons, List.map_cons, List.sum_cons, List.sum_cons]
    exact Nat.add_le_add (h a List.mem_cons_self) (sum_le l fun x hx => h x (List.mem_cons_of_mem _ hx))
theorem sum_eq {f g : Nat → Nat} : ∀ l : List Nat, (∀ x, x ∈ l → f x ≤ g x) → ((l.map g).sum = (l.map f).sum ↔ ∀ x, x ∈ l → g x = f x)
  | [], _ => by simp
  | a :: l, h => by
    rw [List.map_cons, List.map_cons, List.sum_cons, List.sum_cons]
    have h1 := h a List.mem_cons_self
    have h2 := sum_le l fun x hx => h x (List.mem_cons_of_mem _ hx)
    have ih := sum_eq l fun x hx => h x (List.mem_cons_of_mem _ hx)
    constructor
    · intro e x hx
      rcases List.mem_cons.mp hx with q | q
      · subst q; omega
      · exact ih.mp (by omega) x q
    · intro e
      rw [e a List.mem_cons_self, ih.mpr fun x hx => e x (List.mem_cons_of_mem _ hx)]
theorem ww_lb (a b : Nat) : yLb adj ht a b ≤ yWw adj ht a b ∧ (yWw adj ht a b = yLb adj ht a b ↔ yOk adj ht a b = true) := by
  unfold yLb yWw yOk
  by_cases h : adj a b = true
  · simp only [h, if_true, Bool.not_true, Bool.false_or, decide_eq_true_eq]
    omega
  · simp [h]
theorem cs_lb : ∀ o : List Nat, yLs' adj ht o ≤ yCs adj ht o ∧ (yCs adj ht o = yLs' adj ht o ↔ yGo adj ht o = true)
  | [] => ⟨Nat.le_refl _, by simp [yCs, yLs', yGo]⟩
  | a :: l => by
    obtain ⟨h1, h2⟩ := cs_lb l
    have h3 := sum_le (f := yLb adj ht a) (g := yWw adj ht a) l fun x _ => (ww_lb adj ht a x).1
    have h4 := sum_eq (f := yLb adj ht a) (g := yWw adj ht a) l fun x _ => (ww_lb adj ht a x).1
    refine ⟨by simp only [yLs', yCs]; omega, ?_⟩
    simp only [yLs', yCs, yGo, Bool.and_eq_true, List.all_eq_true]
    constructor
    · intro e
      exact ⟨fun x hx => ((ww_lb adj ht a x).2).mp (h4.mp (by omega) x hx), h2.mp (by omega)⟩
    · rintro ⟨e1, e2⟩
      rw [h2.mpr e2, h4.mpr fun x hx => ((ww_lb adj ht a x).2).mpr (e1 x hx)]
theorem lb_perm {s : List Nat} (sy : ∀ a b, a ∈ s → b ∈ s → adj a b = adj b a) : ∀ {o1 o2 : List Nat}, o1.Perm o2 → (∀ a, a ∈ o1 → a ∈ s) → yLs' adj ht o1 = yLs' adj ht o2 := by
  intro o1 o2 h
  induction h with
  | nil => intro _; rfl
  | cons a p ih =>
    intro hs
    simp only [yLs']
    rw [ih fun x hx => hs x (List.mem_cons_of_mem _ hx), (p.map (yLb adj ht a)).sum_nat]
  | swap a b l =>
    intro hs
    simp only [yLs', List.map_cons, List.sum_cons]
    have : yLb adj ht b a = yLb adj ht a b := by
      unfold yLb
      rw [sy b a (hs b List.mem_cons_self) (hs a (by simp)), Nat.min_comm]
    omega
  | trans p q ih1 ih2 =>
    intro hs
    rw [ih1 hs, ih2 fun x hx => hs x (p.mem_iff.mpr hx)]
/-- the first that costs least -/
def yCm (s : Int32 × List Nat) (o : List Nat) : Int32 × List Nat := if s.1 = -9 ∨ nI (yCs adj ht o) < s.1 then (nI (yCs adj ht o), o) else s
theorem first_least {s : List Nat} (sy : ∀ a b, a ∈ s → b ∈ s → adj a b = adj b a) (lim : ∀ o, o ∈ yPm s.length s → yCs adj ht o < 1000) : (yPm s.length s).foldl (yCm adj ht) (-9, []) = (nI (yCs adj ht (yG adj ht s.length s)), yG adj ht s.length s) := by
  have hf := yG_find adj ht s.length s rfl
  obtain ⟨hg, l1, l2, e, hno⟩ := List.find?_eq_some_iff_append.mp hf
  have inv : ∀ o, o ∈ yPm s.length s → yLs' adj ht o = yLs' adj ht s := fun o ho => lb_perm adj ht sy (yPm_perm rfl ho) fun a ha => (yPm_perm rfl ho).mem_iff.mp ha
  have hgm : yG adj ht s.length s ∈ yPm s.length s := by rw [e]; simp
  have hgc : yCs adj ht (yG adj ht s.length s) = yLs' adj ht s := by rw [((cs_lb adj ht _).2).mpr hg, inv _ hgm]
  have B : yLs' adj ht s < 1000 := by rw [← hgc]; exact lim _ hgm
  -- ahead of it all cost more
  have pre : ∀ l : List (List Nat), (∀ o, o ∈ l → o ∈ yPm s.length s ∧ yGo adj ht o = false) → ∀ st : Int32 × List Nat, (st.1 = -9 ∨ ∃ x, yLs' adj ht s < x ∧ x < 1000 ∧ st.1 = nI x) → ((l.foldl (yCm adj ht) st).1 = -9 ∨ ∃ x, yLs' adj ht s < x ∧ x < 1000 ∧ (l.foldl (yCm adj ht) st).1 = nI x) := by
    intro l
    induction l with
    | nil => intro _ st h; exact h
    | cons o l ih =>
      intro hl st h
      rw [List.foldl_cons]
      refine ih (fun o' ho' => hl o' (List.mem_cons_of_mem _ ho')) _ ?_
      obtain ⟨ho, hb⟩ := hl o List.mem_cons_self
      unfold yCm
      split
      · right
        refine ⟨yCs adj ht o, ?_, lim o ho, rfl⟩
        have h1 := (cs_lb adj ht o).1
        have h2 := (cs_lb adj ht o).2
        rw [inv o ho] at h1 h2
        have : ¬ yCs adj ht o = yLs' adj ht s := fun w => by rw [h2.mp w] at hb; exact absurd hb (by decide)
        omega
      · exact h
  have post : ∀ l : List (List Nat), (∀ o, o ∈ l → o ∈ yPm s.length s) → ∀ g, l.foldl (yCm adj ht) (nI (yLs' adj ht s), g) = (nI (yLs' adj ht s), g) := by
    intro l
    induction l with
    | nil => intro _ g; rfl
    | cons o l ih =>
      intro hl g
      rw [List.foldl_cons]
      have ho := hl o List.mem_cons_self
      have h1 := (cs_lb adj ht o).1
      rw [inv o ho] at h1
      have h2 := lim o ho
      have : yCm adj ht (nI (yLs' adj ht s), g) o = (nI (yLs' adj ht s), g) := by
        unfold yCm
        rw [if_neg]
        rintro (w | w)
        · exact nI_n9 (by omega) w
        · exact nI_nlt (by omega) (by omega) w
      rw [this]
      exact ih (fun o' ho' => hl o' (List.mem_cons_of_mem _ ho')) g
  have p1 := pre l1 (fun o ho => ⟨by rw [e]; exact List.mem_append_left _ ho, by have := hno o ho; simpa using this⟩) (-9, []) (.inl rfl)
  rw [e, List.foldl_append, List.foldl_cons]
  have step : yCm adj ht (l1.foldl (yCm adj ht) (-9, [])) (yG adj ht s.length s) = (nI (yLs' adj ht s), yG adj ht s.length s) := by
    generalize l1.foldl (yCm adj ht) (-9, []) = q at p1
    unfold yCm
    rw [hgc, if_pos]
    rcases p1 with w | ⟨x, h1, h2, w⟩
    · exact .inl w
    · right; rw [w]; exact nI_lt h1 (by omega)
  rw [step, post l2 (fun o ho => by rw [e]; exact List.mem_append_right _ (List.mem_cons_of_mem _ ho)), hgc]
end ORDER
