/-! PLANS as lists: all of them, one after the other -/
def yA (N : Nat) : Nat → List (List Nat)
  | 0 => [[]]
  | n + 1 => (List.range N).flatMap fun a => (yA N n).map (a :: ·)
/-- the next one by counting up -/
def yT (N : Nat) : List Nat → Option (List Nat)
  | [] => none
  | a :: l => match yT N l with
    | some l' => some (a :: l')
    | none => if a + 1 < N then some ((a + 1) :: List.replicate l.length 0) else none
def yF (N : Nat) (U : List Nat) : List Nat := (List.range N).filter fun x => !U.contains x
def yFst (N : Nat) : List Nat → Nat → List Nat
  | _, 0 => []
  | U, n + 1 => match (yF N U).head? with
    | some b => b :: yFst N (b :: U) n
    | none => List.replicate (n + 1) 0
/-- the next one without any twice -/
def yS (N : Nat) : List Nat → List Nat → Option (List Nat)
  | _, [] => none
  | U, a :: l => match yS N (a :: U) l with
    | some l' => some (a :: l')
    | none => ((yF N U).find? fun x => decide (a < x)).map fun b => b :: yFst N (b :: U) l.length
def yE (N : Nat) : List Nat → Nat → List (List Nat)
  | _, 0 => [[]]
  | U, n + 1 => (yF N U).flatMap fun a => (yE N (a :: U) n).map (a :: ·)
/-- each is followed by the next; what follows the last is c -/
def yRn {α : Type} (S : α → Option α) (c : Option α) : List α → Prop
  | [] => True
  | x :: l => S x = l.head?.or c ∧ yRn S c l
theorem yRn_app {α : Type} {S : α → Option α} {c : Option α} : ∀ {l1 l2 : List α}, yRn S (l2.head?.or c) l1 → yRn S c l2 → yRn S c (l1 ++ l2)
  | [], _, _, h => h
  | x :: l1, l2, h1, h2 => by
    refine ⟨?_, yRn_app h1.2 h2⟩
    rw [h1.1]
    show l1.head?.or (l2.head?.or c) = (l1 ++ l2).head?.or c
    rw [List.head?_append]
    cases l1.head? <;> rfl
theorem yRn_map {α : Type} {S S' : α → Option α} {c : Option α} {f : α → α} : ∀ {l : List α}, yRn S none l → (∀ x, x ∈ l → S' (f x) = ((S x).map f).or c) → yRn S' c (l.map f)
  | [], _, _ => trivial
  | x :: l, h, hs => by
    refine ⟨?_, yRn_map h.2 fun y hy => hs y (List.mem_cons_of_mem _ hy)⟩
    rw [hs x List.mem_cons_self, h.1]
    simp
theorem head_flat {α β : Type} {f : α → List β} {a : α} {l : List α} {b : β} (h : (f a).head? = some b) : ((a :: l).flatMap f).head? = some b := by
  rw [List.flatMap_cons, List.head?_append, h]
  rfl
theorem yA_len {N : Nat} : ∀ {n : Nat} {x : List Nat}, x ∈ yA N n → x.length = n ∧ ∀ a, a ∈ x → a < N
  | 0, x, h => by
    simp [yA] at h
    subst h
    exact ⟨rfl, fun a ha => absurd ha (by simp)⟩
  | n + 1, x, h => by
    simp only [yA, List.mem_flatMap, List.mem_map, List.mem_range] at h
    obtain ⟨a, ha, y, hy, rfl⟩ := h
    obtain ⟨h1, h2⟩ := yA_len hy
    refine ⟨by simp [h1], fun b hb => ?_⟩
    rcases List.mem_cons.mp hb with q | q
    · subst q; exact ha
    · exact h2 b q
theorem yA_head {N : Nat} (h : 0 < N) : ∀ n : Nat, (yA N n).head? = some (List.replicate n 0)
  | 0 => rfl
  | n + 1 => by
    obtain ⟨M, rfl⟩ : ∃ M, N = M + 1 := ⟨N - 1, by omega⟩
    rw [yA, List.range_succ_eq_map]
    refine head_flat ?_
    rw [List.head?_map, yA_head h n]
    rfl
theorem yA_run {N : Nat} (h : 0 < N) : ∀ n : Nat, yRn (yT N) none (yA N n)
  | 0 => ⟨rfl, trivial⟩
  | n + 1 => by
    have ih := yA_run h n
    -- from head b on
    have key : ∀ q b, b + q = N → yRn (yT N) none (((List.range' b q)).flatMap fun a => (yA N n).map (a :: ·)) := by
      intro q
      induction q with
      | zero => intro b _; exact trivial
      | succ q iq =>
        intro b hb
        rw [List.range'_succ, List.flatMap_cons]
        refine yRn_app ?_ (iq (b + 1) (by omega))
        refine yRn_map ih fun x hx => ?_
        have hc : (((List.range' (b + 1) q)).flatMap fun a => (yA N n).map (a :: ·)).head? = if b + 1 < N then some ((b + 1) :: List.replicate n 0) else none := by
          cases q with
          | zero => rw [if_neg (by omega)]; rfl
          | succ q =>
            rw [if_pos (by omega), List.range'_succ]
            refine head_flat ?_
            rw [List.head?_map, yA_head h n]
            rfl
        rw [hc, yT]
        cases yT N x with
        | none => rw [(yA_len hx).1]; simp
        | some y => simp
    rw [yA, List.range_eq_range']
    exact key N 0 (by omega)
def yP (U x : List Nat) : Bool := decide (x.Nodup ∧ ∀ a, a ∈ x → a ∉ U)
theorem flat_filter {α β : Type} {p : α → Bool} {f : α → List β} : ∀ l : List α, (l.filter p).flatMap f = l.flatMap fun a => if p a then f a else []
  | [] => rfl
  | a :: l => by
    rw [List.filter_cons, List.flatMap_cons]
    by_cases h : p a = true
    · rw [if_pos h, if_pos h, List.flatMap_cons, flat_filter l]
    · rw [if_neg h, if_neg h, flat_filter l]; rfl
theorem yE_eq {N : Nat} : ∀ (n : Nat) (U : List Nat), yE N U n = (yA N n).filter (yP U)
  | 0, U => by simp [yE, yA, yP]
  | n + 1, U => by
    rw [yE, yA, yF, flat_filter, List.filter_flatMap]
    congr 1
    funext a
    rw [List.filter_map, yE_eq n (a :: U)]
    by_cases h : a ∈ U
    · rw [if_neg (by simp [h])]
      rw [List.filter_eq_nil_iff.mpr]
      · rfl
      · intro x _
        simp [yP, h]
    · rw [if_pos (by simp [h])]
      congr 1
      refine List.filter_congr fun x _ => ?_
      simp only [yP, Function.comp, decide_eq_decide, List.nodup_cons, List.mem_cons, not_or]
      constructor
      · rintro ⟨h1, h2⟩
        exact ⟨⟨fun q => (h2 a q).1 rfl, h1⟩, fun b hb => by
          rcases hb with q | q
          · subst q; exact h
          · exact (h2 b q).2⟩
      · rintro ⟨⟨h1, h2⟩, h3⟩
        exact ⟨h2, fun b hb => ⟨fun q => h1 (q ▸ hb), h3 b (.inr hb)⟩⟩
/-- hooks in use: each once, each there -/
def yU (N : Nat) (U : List Nat) : Prop := U.Nodup ∧ ∀ a, a ∈ U → a < N
theorem yF_mem {N : Nat} {U : List Nat} {x : Nat} : x ∈ yF N U ↔ x < N ∧ x ∉ U := by simp [yF]
theorem yF_len {N : Nat} : ∀ {U : List Nat}, yU N U → (yF N U).length + U.length = N
  | [], _ => by
    have : yF N [] = List.range N := by
      unfold yF
      exact List.filter_eq_self.mpr fun a _ => rfl
    rw [this]
    simp
  | a :: U, h => by
    have hU : yU N U := ⟨(List.nodup_cons.mp h.1).2, fun b hb => h.2 b (List.mem_cons_of_mem _ hb)⟩
    have ih := yF_len hU
    have ha : a ∉ U := (List.nodup_cons.mp h.1).1
    have haN : a < N := h.2 a List.mem_cons_self
    have e : yF N (a :: U) = (yF N U).erase a := by
      have nd : (yF N U).Nodup := List.Nodup.sublist List.filter_sublist List.nodup_range
      rw [nd.erase_eq_filter]
      unfold yF
      rw [List.filter_filter]
      refine List.filter_congr fun x _ => ?_
      by_cases h1 : x = a
      · subst h1; simp
      · simp [h1]
    rw [e, List.length_erase_of_mem (yF_mem.mpr ⟨haN, ha⟩), List.length_cons]
    have : 0 < (yF N U).length := List.length_pos_of_mem (yF_mem.mpr ⟨haN, ha⟩)
    omega
theorem yU_cons {N : Nat} {U : List Nat} {a : Nat} (h : yU N U) (ha : a ∈ yF N U) : yU N (a :: U) := by
  obtain ⟨h1, h2⟩ := yF_mem.mp ha
  refine ⟨List.nodup_cons.mpr ⟨h2, h.1⟩, fun b hb => ?_⟩
  rcases List.mem_cons.mp hb with q | q
  · subst q; exact h1
  · exact h.2 b q
theorem yF_sorted (N : Nat) (U : List Nat) : (yF N U).Pairwise (· < ·) := List.Pairwise.sublist List.filter_sublist List.pairwise_lt_range
theorem yE_head {N : Nat} : ∀ {n : Nat} {U : List Nat}, yU N U → U.length + n ≤ N → (yE N U n).head? = some (yFst N U n)
  | 0, _, _, _ => rfl
  | n + 1, U, h, hl => by
    have len := yF_len h
    cases e : yF N U with
    | nil => rw [e] at len; simp at len; omega
    | cons a F =>
      have ha : a ∈ yF N U := by rw [e]; exact List.mem_cons_self
      rw [yE, e]
      refine head_flat ?_
      rw [List.head?_map, yE_head (yU_cons h ha) (by simp; omega), yFst, e]
      rfl
theorem yE_len {N : Nat} : ∀ {n : Nat} {U x : List Nat}, x ∈ yE N U n → x.length = n
  | n, U, x, h => by
    rw [yE_eq] at h
    exact (yA_len (List.mem_filter.mp h).1).1
theorem find_next {a : Nat} : ∀ {l r : List Nat}, (l ++ a :: r).Pairwise (· < ·) → (l ++ a :: r).find? (fun x => decide (a < x)) = r.head?
  | [], r, h => by
    rw [List.nil_append, List.find?_cons]
    simp only [Nat.lt_irrefl, decide_false]
    cases r with
    | nil => rfl
    | cons b r =>
      have : a < b := (List.pairwise_cons.mp h).1 b List.mem_cons_self
      rw [List.find?_cons]
      simp [this]
  | b :: l, r, h => by
    have hb : b < a := (List.pairwise_cons.mp h).1 a (by simp)
    rw [List.cons_append, List.find?_cons]
    have : ¬ a < b := by omega
    simp only [this, decide_false]
    exact find_next (List.pairwise_cons.mp h).2
theorem yE_run {N : Nat} : ∀ {n : Nat} {U : List Nat}, yU N U → U.length + n ≤ N → yRn (yS N U) none (yE N U n)
  | 0, _, _, _ => ⟨rfl, trivial⟩
  | n + 1, U, h, hl => by
    have key : ∀ F P : List Nat, P ++ F = yF N U → yRn (yS N U) none (F.flatMap fun a => (yE N (a :: U) n).map (a :: ·)) := by
      intro F
      induction F with
      | nil => intro _ _; exact trivial
      | cons a F ih =>
        intro P e
        have ha : a ∈ yF N U := by rw [← e]; simp
        rw [List.flatMap_cons]
        refine yRn_app ?_ (ih (P ++ [a]) (by rw [← e]; simp))
        refine yRn_map (yE_run (yU_cons h ha) (by simp; omega)) fun x hx => ?_
        have hn : (yF N U).find? (fun x => decide (a < x)) = F.head? := by
          rw [← e]
          exact find_next (by rw [e]; exact yF_sorted N U)
        have hc : (F.flatMap fun a => (yE N (a :: U) n).map (a :: ·)).head? = F.head?.map fun b => b :: yFst N (b :: U) n := by
          cases F with
          | nil => rfl
          | cons b F =>
            have hb : b ∈ yF N U := by rw [← e]; simp
            refine head_flat ?_
            rw [List.head?_map, yE_head (yU_cons h hb) (by simp; omega)]
            rfl
        rw [hc, yS, hn, yE_len hx]
        cases yS N (a :: U) x <;> simp
    exact key (yF N U) [] rfl
/-- how many plans -/
def yPc (N : Nat) : Nat → Nat → Nat
  | _, 0 => 1
  | u, n + 1 => (N - u) * yPc N (u + 1) n
theorem yE_count {N : Nat} : ∀ {n : Nat} {U : List Nat}, yU N U → U.length + n ≤ N → (yE N U n).length = yPc N U.length n
  | 0, _, _, _ => rfl
  | n + 1, U, h, hl => by
    have len := yF_len h
    have : ∀ F : List Nat, (∀ a, a ∈ F → a ∈ yF N U) → (F.flatMap fun a => (yE N (a :: U) n).map (a :: ·)).length = F.length * yPc N (U.length + 1) n := by
      intro F
      induction F with
      | nil => intro _; simp
      | cons a F ih =>
        intro hF
        have ha := hF a List.mem_cons_self
        rw [List.flatMap_cons, List.length_append, List.length_map, yE_count (yU_cons h ha) (by simp; omega), ih fun b hb => hF b (List.mem_cons_of_mem _ hb), List.length_cons, List.length_cons, Nat.succ_mul, Nat.add_comm]
    rw [yE, this _ fun _ h => h, yPc]
    congr 1
    omega
