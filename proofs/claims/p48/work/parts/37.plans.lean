/-! PLANS as lists: all of them, one after the other -/
def yA (N : Nat) : Nat → List (List Nat)
  | 0 => [[]]
  | n + 1 => (List.range N).flatMap fun a => (yA N n).map (a :: ·)
/-- the next one by counting up -/
def yT (N : Nat) : List Nat → Option (List Nat)
  | [] => none
  | a :: l => match yT N l with
    | some l' => some (a :: l')
    | none => if a + 1 < N then some ((a + 1) :: List.replicate l.length 0) else none
def yF (N : Nat) (U : List Nat) : List Nat := (List.range N).filter fun x => !U.contains x
def yFst (N : Nat) : List Nat → Nat → List Nat
  | _, 0 => []
  | U, n + 1 => match (yF N U).head? with
    | some b => b :: yFst N (b :: U) n
    | none => List.replicate (n + 1) 0
/-- the next one without any twice -/
def yS (N : Nat) : List Nat → List Nat → Option (List Nat)
  | _, [] => none
  | U, a :: l => match yS N (a :: U) l with
    | some l' => some (a :: l')
    | none => ((yF N U).find? fun x => decide (a < x)).map fun b => b :: yFst N (b :: U) l.length
def yE (N : Nat) : List Nat → Nat → List (List Nat)
  | _, 0 => [[]]
  | U, n + 1 => (yF N U).flatMap fun a => (yE N (a :: U) n).map (a :: ·)
/-- each is followed by the next; what follows the last is c -/
def yRn {α : Type} (S : α → Option α) (c : Option α) : List α → Prop
  | [] => True
  | x :: l => S x = l.head?.or c ∧ yRn S c l
theorem yRn_app {α : Type} {S : α → Option α} {c : Option α} : ∀ {l1 l2 : List α}, yRn S (l2.head?.or c) l1 → yRn S c l2 → yRn S c (l1 ++ l2)
  | [], _, _, h => h
  | x :: l1, l2, h1, h2 => by
    refine ⟨?_, yRn_app h1.2 h2⟩
    rw [h1.1]
    show l1.head?.or (l2.head?.or c) = (l1 ++ l2).head?.or c
    rw [List.head?_append]
    cases l1.head? <;> rfl
theorem yRn_map {α : Type} {S S' : α → Option α} {c : Option α} {f : α → α} : ∀ {l : List α}, yRn S none l → (∀ x, x ∈ l → S' (f x) = ((S x).map f).or c) → yRn S' c (l.map f)
  | [], _, _ => trivial
  | x :: l, h, hs => by
    refine ⟨?_, yRn_map h.2 fun y hy => hs y (List.mem_cons_of_mem _ hy)⟩
    rw [hs x List.mem_cons_self, h.1]
    simp
theorem head_flat {α β : Type} {f : α → List β} {a : α} {l : List α} {b : β} (h : (f a).head? = some b) : ((a :: l).flatMap f).head? = some b := by
  rw [List.flatMap_cons, List.head?_append, h]
  rfl
theorem yA_len {N : Nat} : ∀ {n : Nat} {x : List Nat}, x ∈ yA N n → x.length = n ∧ ∀ a, a ∈ x → a < N
  | 0, x, h => by
    simp [yA] at h
    subst h
    exact ⟨rfl, fun a ha => absurd ha (by simp)⟩
  | n + 1, x, h => by
    simp only [yA, List.mem_flatMap, List.mem_map, List.mem_range] at h
    obtain ⟨a, ha, y, hy, rfl⟩ := h
    obtain ⟨h1, h2⟩ := yA_len hy
    refine ⟨by simp [h1], fun b hb => ?_⟩
    rcases List.mem_cons.mp hb with q | q
    · subst q; exact ha
    · exact h2 b q
theorem yA_head {N : Nat} (h : 0 < N) : ∀ n : Nat, (yA N n).head? = some (List.replicate n 0)
  | 0 => rfl
  | n + 1 => by
    obtain ⟨M, rfl⟩ : ∃ M, N = M + 1 := ⟨N - 1, by omega⟩
    rw [yA, List.range_succ_eq_map]
    refine head_flat ?_
    rw [List.head?_map, yA_head h n]
    rfl
theorem yA_run {N : Nat} (h : 0 < N) : ∀ n : Nat, yRn (yT N) none (yA N n)
  | 0 => ⟨rfl, trivial⟩
  | n + 1 => by
    have ih := yA_run h n
    -- from head b on
    have key : ∀ q b, b + q = N → yRn (yT N) none (((List.range' b q)).flatMap fun a => (yA N n).map (a :: ·)) := by
      intro q
      induction q with
      | zero => intro b _; exact trivial
      | succ q iq =>
        intro b hb
        rw [List.range'_succ, List.flatMap_cons]
        refine yRn_app ?_ (iq (b + 1) (by omega))
        refine yRn_map ih fun x hx => ?_
        have hc : (((List.range' (b + 1) q)).flatMap fun a => (yA N n).map (a :: ·)).head? = if b + 1 < N then some ((b + 1) :: List.replicate n 0) else none := by
          cases q with
          | zero => rw [if_neg (by omega)]; rfl
          | succ q =>
            rw [if_pos (by omega), List.range'_succ]
            refine head_flat ?_
            rw [List.head?_map, yA_head h n]
            rfl
        rw [hc, yT]
        cases yT N x with
        | none => rw [(yA_len hx).1]; simp
        | some y => simp
    rw [yA, List.range_eq_range']
    exact key N 0 (by omega)
def yP (U x : List Nat) : Bool := decide (x.Nodup ∧ ∀ a, a ∈ x → a ∉ U)
theorem flat_filter {α β : Type} {p : α → Bool} {f : α → List β} : ∀ l : List α, (l.filter p).flatMap f = l.flatMap fun a => if p a then f a else []
  | [] => rfl
  | a :: l => by
    rw [List.filter_cons, List.flatMap_cons]
    by_cases h : p a = true
    · rw [if_pos h, if_pos h, List.flatMap_cons, flat_filter l]
    · rw [if_neg h, if_neg h, flat_filter l]; rfl
theorem yE_eq {N : Nat} : ∀ (n : Nat) (U : List Nat), yE N U n = (yA N n).filter (yP U)
  | 0, U => by simp [yE, yA, yP]
  | n + 1, U => by
    rw [yE, yA, yF, flat_filter, List.filter_flatMap]
    congr 1
    funext a
    rw [List.filter_map, yE_eq n (a :: U)]
    by_cases h : a ∈ U
    · rw [if_neg (by simp [h])]
      rw [List.filter_eq_nil_iff.mpr]
      · rfl
      · intro x _
        simp [yP, h]
    · rw [if_pos (by simp [h])]
      congr 1
      refine List.filter_congr fun x _ => ?_
      simp only [yP, Function.comp, decide_eq_decide, List.nodup_cons, List.mem_cons, not_or]
      constructor
      · rintro ⟨h1, h2⟩
        exact ⟨⟨fun q => (h2 a q).1 rfl, h1⟩, fun b hb => by
          rcases hb with q | q
          · subst q; exact h
          · exact (h2 b q).2⟩
      · rintro ⟨⟨h1, h2⟩, h3⟩
        exact ⟨h2, fun b hb => ⟨fun q => h1 (q ▸ hb), h3 b (.inr hb)⟩⟩
/-- hooks in use: each once, each there -/
def yU (N : Nat) (U : List Nat) : Prop := U.Nodup ∧ ∀ a, a ∈ U → a < N
theorem yF_mem {N : Nat} {U : List Nat} {x : Nat} : x ∈ yF N U ↔ x < N ∧ x ∉ U := by simp [yF]
theorem yF_len {N : Nat} : ∀ {U : List Nat}, yU N U → (yF N U).length + U.length = N
  | [], _ => by
    have : yF N [] = List.range N := by
      unfold yF
      exact List.filter_eq_self.mpr fun a _ => rfl
    rw [this]
    simp
  | a :: U, h => by
    have hU : yU N U := ⟨(List.nodup_cons.mp h.1).2, fun b hb => h.2 b (List.mem_cons_of_mem _ hb)⟩
    have ih := yF_len hU
    have ha : a ∉ U := (List.nodup_cons.mp h.1).1
    have haN : a < N := h.2 a List.mem_cons_self
    have e : yF N (a :: U) = (yF N U).erase a := by
      have nd : (yF N U).Nodup := List.Nodup.sublist List.filter_sublist List.nodup_range
      rw [nd.erase_eq_filter]
      unfold yF
      rw [List.filter_filter]
      refine List.filter_congr fun x _ => ?_
      by_cases h1 : x = a
      · subst h1; simp
      · simp [h1]
    rw [e, List.length_erase_of_mem (yF_mem.mpr ⟨haN, ha⟩), List.length_cons]
    have : 0 < (yF N U).length := List.length_pos_of_mem (yF_mem.mpr ⟨haN, ha⟩)
    omega
theorem yU_cons {N : Nat} {U : List Nat} {a : Nat} (h : yU N U) (ha : a ∈ yF N U) : yU N (a :: U) := by
  obtain ⟨h1, h2⟩ := yF_mem.mp ha
  refine ⟨List.nodup_cons.mpr ⟨h2, h.1⟩, fun b hb => ?_⟩
  rcases List.mem_cons.mp hb with q | q
  · subst q; exact h1
  · exact h.2 b q
theorem yF_sorted (N : Nat) (U : List Nat) : (yF N U).Pairwise (· < ·) := List.Pairwise.sublist List.filter_sublist List.pairwise_lt_range
theorem yE_head {N : Nat} : ∀ {n : Nat} {U : List Nat}, yU N U → U.length + n ≤ N → (yE N U n).head? = some (yFst N U n)
  | 0, _, _, _ => rfl
  | n + 1, U, h, hl => by
    have len := yF_len h
    cases e : yF N U with
    | nil => rw [e] at len; simp at len; omega
    | cons a F =>
      have ha : a ∈ yF N U := by rw [e]; exact List.mem_cons_self
      rw [yE, e]
      refine head_flat ?_
      rw [List.head?_map, yE_head (yU_cons h ha) (by simp; omega), yFst, e]
      rfl
theorem yE_len {N : Nat} : ∀ {n : Nat} {U x : List Nat}, x ∈ yE N U n → x.length = n
  | n, U, x, h => by
    rw [yE_eq] at h
    exact (yA_len (List.mem_filter.mp h).1).1
theorem find_next {a : Nat} : ∀ {l r : List Nat}, (l ++ a :: r).Pairwise (· < ·) → (l ++ a :: r).find? (fun x => decide (a < x)) = r.head?
  | [], r, h => by
    rw [List.nil_append, List.find?_cons]
    simp only [Nat.lt_irrefl, decide_false]
    cases r with
    | nil => rfl
    | cons b r =>
      have : a < b := (List.pairwise_cons.mp h).1 b List.mem_cons_self
      rw [List.find?_cons]
      simp [this]
  | b :: l, r, h => by
    have hb : b < a := (List.pairwise_cons.mp h).1 a (by simp)
    rw [List.cons_append, List.find?_cons]
    have : ¬ a < b := by omega
    simp only [this, decide_false]
    exact find_next (List.pairwise_cons.mp h).2
theorem yE_run {N : Nat} : ∀ {n : Nat} {U : List Nat}, yU N U → U.length + n ≤ N → yRn (yS N U) none (yE N U n)
  | 0, _, _, _ => ⟨rfl, trivial⟩
  | n + 1, U, h, hl => by
    have key : ∀ F P : List Nat, P ++ F = yF N U → yRn (yS N U) none (F.flatMap fun a => (yE N (a :: U) n).map (a :: ·)) := by
      intro F
      induction F with
      | nil => intro _ _; exact trivial
      | cons a F ih =>
        intro P e
        have ha : a ∈ yF N U := by rw [← e]; simp
        rw [List.flatMap_cons]
        refine yRn_app ?_ (ih (P ++ [a]) (by rw [← e]; simp))
        refine yRn_map (yE_run (yU_cons h ha) (by simp; omega)) fun x hx => ?_
        have hn : (yF N U).find? (fun x => decide (a < x)) = F.head? := by
          rw [← e]
          exact find_next (by rw [e]; exact yF_sorted N U)
        have hc : (F.flatMap fun a => (yE N (a :: U) n).map (a :: ·)).head? = F.head?.map fun b => b :: yFst N (b :: U) n := by
          cases F with
          | nil => rfl
          | cons b F =>
            have hb : b ∈ yF N U := by rw [← e]; simp
            refine head_flat ?_
            rw [List.head?_map, yE_head (yU_cons h hb) (by simp; omega)]
            rfl
        rw [hc, yS, hn, yE_len hx]
        cases yS N (a :: U) x <;> simp
    exact key (yF N U) [] rfl
/-- how many plans -/
def yPc (N : Nat) : Nat → Nat → Nat
  | _, 0 => 1
  | u, n + 1 => (N - u) * yPc N (u + 1) n
theorem yE_count {N : Nat} : ∀ {n : Nat} {U : List Nat}, yU N U → U.length + n ≤ N → (yE N U n).length = yPc N U.length n
  | 0, _, _, _ => rfl
  | n + 1, U, h, hl => by
    have len := yF_len h
    have : ∀ F : List Nat, (∀ a, a ∈ F → a ∈ yF N U) → (F.flatMap fun a => (yE N (a :: U) n).map (a :: ·)).length = F.length * yPc N (U.length + 1) n := by
      intro F
      induction F with
      | nil => intro _; simp
      | cons a F ih =>
        intro hF
        have ha := hF a List.mem_cons_self
        rw [List.flatMap_cons, List.length_append, List.length_map, yE_count (yU_cons h ha) (by simp; omega), ih fun b hb => hF b (List.mem_cons_of_mem _ hb), List.length_cons, List.length_cons, Nat.succ_mul, Nat.add_comm]
    rw [yE, this _ fun _ h => h, yPc]
    congr 1
    omega
/-! THE NEXT PLAN of the class -/
/-- the first free hook from a on -/
def yNx (N : Nat) (U : List Nat) (a : Nat) : Option Nat := (List.range N).find? fun x => decide (a ≤ x) && !U.contains x
theorem yNx_lt (N : Nat) (U : List Nat) (a : Nat) : (yF N U).find? (fun x => decide (a < x)) = yNx N U (a + 1) := by
  unfold yF yNx
  rw [List.find?_filter]
  congr 1
  funext x
  by_cases h1 : a < x
  · by_cases h2 : x ∈ U <;> simp [h1, h2, Nat.succ_le_of_lt h1]
  · have : ¬ a + 1 ≤ x := h1
    by_cases h2 : x ∈ U <;> simp [h1, h2, this]
theorem yNx_hd (N : Nat) (U : List Nat) : (yF N U).head? = yNx N U 0 := by
  have e : ∀ l : List Nat, l.head? = l.find? (fun _ => true) := fun l => by cases l <;> simp
  rw [e]
  unfold yF yNx
  rw [List.find?_filter]
  congr 1
  funext x
  simp
theorem yNx_some {N : Nat} {U : List Nat} {a b : Nat} (h1 : a ≤ b) (h2 : b < N) (h3 : b ∉ U) (h4 : ∀ x, a ≤ x → x < b → x ∈ U) : yNx N U a = some b := by
  unfold yNx
  rw [List.find?_range_eq_some]
  refine ⟨by simp [h1, h3], by simpa using h2, fun j hj => ?_⟩
  by_cases q : a ≤ j
  · simp [h4 j q hj]
  · simp [q]
theorem yNx_none {N : Nat} {U : List Nat} {a : Nat} (h4 : ∀ x, a ≤ x → x < N → x ∈ U) : yNx N U a = none := by
  unfold yNx
  rw [List.find?_range_eq_none]
  intro j hj
  by_cases q : a ≤ j
  · simp [h4 j q hj]
  · simp [q]
section NEXT
variable {r : zE} {x c : Nat} {C : zCs} {F : zBr → zH} {L T : zA}
theorem b_moveOn (b : zBx r x c C F) (k : zCk C) {H G : zA} (g : zCG C H G) {m : Nat} (hm : m < C.2.1) {a0 : Nat} (ha : (H m = -9 ∧ a0 = 0) ∨ ∃ a, a < C.1 ∧ H m = nI a ∧ a0 = a + 1) {U : List Nat} (hU : ∀ y, a0 ≤ y → y < C.1 → (G y = -9 ↔ y ∉ U)) :
    ∃ G', zev r i_X0_moveOn 0 [some (.ref x), some (.int (nI m)), none] [] (F (H, G, L, T)) = some (some (.int (match yNx C.1 U a0 with | some _ => 1 | none => 0)), F (upd H m (match yNx C.1 U a0 with | some y => nI y | none => -9), G', L, T)) ∧ zCG C (upd H m (match yNx C.1 U a0 with | some y => nI y | none => -9)) G' := by
  have k1 := k.1
  have k2 := k.2.1
  obtain ⟨v, o, g0, g1, g2, -, -, r1, -⟩ := b (H, G, L, T)
  have st : zev r i_X0_moveOn 0 [some (.ref x), some (.int (nI m)), none] [] (F (H, G, L, T)) = zev r i_X0_moveOn 13 [some (.ref x), some (.int (nI m)), some (.int (nI a0))] [] (F (H, G, L, T)) := by
    rw [E_X0_moveOn_0]
    simp only [g1, r1 m (show m < 6 by omega), Option.bind_some]
    rcases ha with ⟨h1, h2⟩ | ⟨a, h1, h2, h3⟩
    · rw [h1, h2]; rfl
    · rw [h2, h3, if_pos (show (-1 : Int32) < nI a from Int32.lt_of_lt_of_le (by decide) (nI_pos' (by omega))), nI_1]
  rw [st]
  have a7 : a0 ≤ 7 := by
    rcases ha with ⟨-, h2⟩ | ⟨a, h1, -, h3⟩ <;> omega
  have key : ∀ q y, y + q = max a0 C.1 → a0 ≤ y → (∀ z, a0 ≤ z → z < y → z ∈ U) → ∃ G', zev r i_X0_moveOn 13 [some (.ref x), some (.int (nI m)), some (.int (nI y))] [] (F (H, G, L, T)) = some (some (.int (match yNx C.1 U a0 with | some _ => 1 | none => 0)), F (upd H m (match yNx C.1 U a0 with | some y => nI y | none => -9), G', L, T)) ∧ zCG C (upd H m (match yNx C.1 U a0 with | some y => nI y | none => -9)) G' := by
    intro q
    induction q with
    | zero =>
      intro y hy hay hz
      rw [yNx_none (fun z h1 h2 => hz z h1 (by omega))]
      obtain ⟨G', e1, c1⟩ := b_move b k (B := (H, G, L, T)) g hm (h := -9) (.inl (.inl rfl))
      refine ⟨G', ?_, c1⟩
      refine (E_X0_moveOn_13 ..).trans ?_
      simp only [g0, v.2.1, Option.bind_some, if_neg (nI_nlt (show C.1 ≤ y by omega) (show y < 2 ^ 31 by omega)), o, if_true, e1, zcV_some]
    | succ q ih =>
      intro y hy hay hz
      by_cases yn : y < C.1
      · by_cases fr : G y = -9
        · have hu : y ∉ U := (hU y hay yn).mp fr
          rw [yNx_some hay yn hu hz]
          obtain ⟨G', e1, c1⟩ := b_move b k (B := (H, G, L, T)) g hm (h := nI y) (.inl (.inr ⟨y, yn, rfl, fr⟩))
          refine ⟨G', ?_, c1⟩
          refine (E_X0_moveOn_13 ..).trans ?_
          simp only [g0, v.2.1, Option.bind_some, if_pos (nI_lt yn (show C.1 < 2 ^ 31 by omega)), o, if_true, b_free b k, zcI_some, zhk_in yn (show C.1 < 2 ^ 31 by omega), i01, if_false, nI_clamp (show y < 2 ^ 31 by omega), fr, e1, zcV_some]
        · have hu : y ∈ U := Decidable.byContradiction fun q => fr ((hU y hay yn).mpr q)
          obtain ⟨G', e1, c1⟩ := ih (y + 1) (by omega) (by omega) fun z h1 h2 => by
            by_cases w : z = y
            · subst w; exact hu
            · exact hz z h1 (by omega)
          refine ⟨G', ?_, c1⟩
          refine (E_X0_moveOn_13 ..).trans ?_
          simp only [g0, v.2.1, Option.bind_some, if_pos (nI_lt yn (show C.1 < 2 ^ 31 by omega)), o, if_true, b_free b k, zcI_some, zhk_in yn (show C.1 < 2 ^ 31 by omega), i01, if_false, nI_clamp (show y < 2 ^ 31 by omega), fr, nI_1]
          exact e1
      · exact absurd hy (by omega)
  exact key (max a0 C.1 - a0) a0 (by omega) (Nat.le_refl _) fun z h1 h2 => absurd h2 (by omega)
/-- men from j on hang by s; those ahead of them use U -/
def yHs (C : zCs) (H : zA) (j : Nat) (s : List Nat) : Prop := j + s.length = C.2.1 ∧ ∀ i, i < s.length → H (j + i) = nI (s.getD i 0)
def yUs (C : zCs) (H : zA) (j : Nat) (U : List Nat) : Prop := yU C.1 U ∧ ∀ a, a ∈ U ↔ a < C.1 ∧ ∃ m, m < j ∧ H m = nI a
theorem yUs_free {H G : zA} (k : zCk C) (g : zCG C H G) {j : Nat} {U : List Nat} (hj : j ≤ C.2.1) (hU : yUs C H j U) (hd : ∀ m, j ≤ m → m < C.2.1 → H m = -9) {y : Nat} (hy : y < C.1) : G y = -9 ↔ y ∉ U := by
  have k1 := k.1
  have k2 := k.2.1
  constructor
  · intro e q
    obtain ⟨-, m, h1, h2⟩ := (hU.2 y).mp q
    rcases g.1 m (by omega) with z | ⟨j2, a1, a2, a3⟩
    · exact nI_n9 (by omega) (h2.symm.trans z)
    · have : j2 = y := (nI_eq (by omega) (by omega)).mp (a2.symm.trans h2)
      subst this
      exact nI_n9 (show m < 2 ^ 31 by omega) (a3.symm.trans e)
  · intro q
    refine cg_free k g hy fun m hm e => q ((hU.2 y).mpr ⟨hy, m, ?_, e⟩)
    refine Nat.lt_of_not_le fun w => ?_
    exact nI_n9 (show y < 2 ^ 31 by omega) (e.symm.trans (hd m w hm))
theorem yUs_cons {H : zA} (k : zCk C) {j : Nat} {U : List Nat} {a : Nat} (hU : yUs C H j U) (ha : a < C.1) (hn : a ∉ U) {H' : zA} (h1 : ∀ m, m < j → H' m = H m) (h2 : H' j = nI a) : yUs C H' (j + 1) (a :: U) := by
  have k1 := k.1
  refine ⟨⟨List.nodup_cons.mpr ⟨hn, hU.1.1⟩, fun b hb => ?_⟩, fun b => ?_⟩
  · rcases List.mem_cons.mp hb with q | q
    · subst q; exact ha
    · exact hU.1.2 b q
  · rw [List.mem_cons]
    constructor
    · rintro (q | q)
      · subst q; exact ⟨ha, j, by omega, h2⟩
      · obtain ⟨q1, m, q2, q3⟩ := (hU.2 b).mp q
        exact ⟨q1, m, by omega, (h1 m q2).trans q3⟩
    · rintro ⟨q1, m, q2, q3⟩
      by_cases w : m = j
      · subst w
        exact .inl ((nI_eq (by omega) (by omega)).mp (q3.symm.trans h2))
      · exact .inr ((hU.2 b).mpr ⟨q1, m, by omega, (h1 m (by omega)).symm.trans q3⟩)
/-- the rest filled up -/
theorem b_fill (b : zBx r x c C F) (k : zCk C) (l1 : Int32) : ∀ (n j : Nat) (U : List Nat) (H G : zA), j + n = C.2.1 → zCG C H G → yUs C H j U → (∀ m, j ≤ m → m < C.2.1 → H m = -9) → U.length = j → ∃ H' G', zev r i_X0_hangByNextPlan 32 [some (.ref x), some (.int l1), some (.int (nI j))] [] (F (H, G, L, T)) = some (none, F (H', G', L, T)) ∧ zCG C H' G' ∧ (∀ m, m < j → H' m = H m) ∧ yHs C H' j (yFst C.1 U n) ∧ (yFst C.1 U n).length = n
  | 0, j, U, H, G, hj, g, hU, hd, hl => by
    obtain ⟨v, o, g0, -⟩ := b (H, G, L, T)
    refine ⟨H, G, ?_, g, fun _ _ => rfl, ⟨by simpa [yFst] using hj, fun i hi => absurd hi (by simp [yFst])⟩, rfl⟩
    refine (E_X0_hangByNextPlan_32 ..).trans ?_
    have : j = C.2.1 := by omega
    subst this
    simp only [g0, v.2.2.1, Option.bind_some, if_neg (nI_nlt6 k)]
  | n + 1, j, U, H, G, hj, g, hU, hd, hl => by
    have k1 := k.1
    have k2 := k.2.1
    have k3 := k.2.2.1
    obtain ⟨v, o, g0, -⟩ := b (H, G, L, T)
    have hm : j < C.2.1 := by omega
    obtain ⟨G', e1, c1⟩ := b_moveOn (L := L) (T := T) b k g hm (a0 := 0) (U := U) (.inl ⟨hd j (Nat.le_refl j) hm, rfl⟩) (fun y _ hy => yUs_free k g (by omega) hU hd hy)
    have hlen := yF_len hU.1
    cases e : yNx C.1 U 0 with
    | none =>
      rw [← yNx_hd, List.head?_eq_none_iff] at e
      rw [e] at hlen
      simp at hlen
      omega
    | some a =>
      rw [e] at e1 c1
      dsimp only at e1 c1
      have ha : a ∈ yF C.1 U := List.mem_of_mem_head? (by rw [yNx_hd, e]; rfl)
      obtain ⟨h1, h2⟩ := yF_mem.mp ha
      have hU' : yUs C (upd H j (nI a)) (j + 1) (a :: U) := yUs_cons k hU h1 h2 (fun m hm => upd_n (by omega)) upd_s
      obtain ⟨H2, G2, e2, c2, f2, s2, l2⟩ := b_fill b k l1 n (j + 1) (a :: U) (upd H j (nI a)) G' (by omega) c1 hU' (fun m h3 h4 => (upd_n (by omega)).trans (hd m (by omega) h4)) (by simp [hl])
      have ef : yFst C.1 U (n + 1) = a :: yFst C.1 (a :: U) n := by rw [yFst, yNx_hd, e]
      refine ⟨H2, G2, ?_, c2, fun m hm => (f2 m (by omega)).trans (upd_n (by omega)), ?_, ?_⟩
      · refine (E_X0_hangByNextPlan_32 ..).trans ?_
        simp only [g0, v.2.2.1, Option.bind_some, if_pos (nI_lt6 k hm), o, if_true, e1, zcI_some, nI_1]
        exact e2
      · rw [ef]
        refine ⟨by simp [l2]; omega, fun i hi => ?_⟩
        cases i with
        | zero => exact (f2 j (by omega)).trans upd_s
        | succ i =>
          have := s2.2 i (by simp at hi; omega)
          rw [show j + 1 + i = j + (i + 1) by omega] at this
          exact this
      · rw [ef]; simp [l2]
/-- what the search for the next plan does from man j on -/
theorem b_next (b : zBx r x c C F) (k : zCk C) : ∀ (s : List Nat) (j : Nat) (U : List Nat) (H G : zA), zCG C H G → yUs C H j U → U.length = j → yHs C H j s → (∀ a, a ∈ s → a < C.1) →
    match yS C.1 U s with
    | some s' => ∃ H' G', zev r i_X0_hangByNextPlan 10 [some (.ref x), some (.int (nI C.2.1 - 1)), none] [] (F (H, G, L, T)) = some (none, F (H', G', L, T)) ∧ zCG C H' G' ∧ (∀ m, m < j → H' m = H m) ∧ yHs C H' j s'
    | none => ∃ H' G', zev r i_X0_hangByNextPlan 10 [some (.ref x), some (.int (nI C.2.1 - 1)), none] [] (F (H, G, L, T)) = zev r i_X0_hangByNextPlan 10 [some (.ref x), some (.int (nI j - 1)), none] [] (F (H', G', L, T)) ∧ zCG C H' G' ∧ (∀ m, m < j → H' m = H m) ∧ ∀ m, j ≤ m → m < C.2.1 → H' m = -9
  | [], j, U, H, G, g, hU, hl, hs, hb => by
    have : j = C.2.1 := by have := hs.1; simpa using this
    subst this
    exact ⟨H, G, rfl, g, fun _ _ => rfl, fun m h1 h2 => absurd h2 (by omega)⟩
  | a :: s, j, U, H, G, g, hU, hl, hs, hb => by
    have k1 := k.1
    have k2 := k.2.1
    have k3 := k.2.2.1
    have hjl : j + (s.length + 1) = C.2.1 := by have := hs.1; simpa using this
    have hj : j < C.2.1 := by omega
    have hHj : H j = nI a := by have := hs.2 0 (by simp); simpa using this
    have ha : a < C.1 := hb a List.mem_cons_self
    have hn : a ∉ U := fun q => by
      obtain ⟨-, m, h1, h2⟩ := (hU.2 a).mp q
      have := zCG_inj g k (show m < C.2.1 by omega) hj ha h2 hHj
      omega
    have hU' : yUs C H (j + 1) (a :: U) := yUs_cons k hU ha hn (fun _ _ => rfl) hHj
    have ih := b_next b k s (j + 1) (a :: U) H G g hU' (by simp [hl]) ⟨by omega, fun i hi => by
      have := hs.2 (i + 1) (by simp; omega)
      rw [show j + 1 + i = j + (i + 1) by omega]
      exact this⟩ (fun b hb' => hb b (List.mem_cons_of_mem _ hb'))
    rw [yS]
    cases e : yS C.1 (a :: U) s with
    | some s' =>
      rw [e] at ih
      obtain ⟨H', G', e1, c1, f1, s1⟩ := ih
      refine ⟨H', G', e1, c1, fun m hm => f1 m (by omega), ⟨by have := s1.1; simp; omega, fun i hi => ?_⟩⟩
      cases i with
      | zero => exact (f1 j (by omega)).trans hHj
      | succ i =>
        have := s1.2 i (by simp at hi; omega)
        rw [show j + 1 + i = j + (i + 1) by omega] at this
        exact this
    | none =>
      rw [e] at ih
      obtain ⟨H1, G1, e1, c1, f1, d1⟩ := ih
      dsimp only
      rw [yNx_lt]
      have hH1 : H1 j = nI a := (f1 j (by omega)).trans hHj
      have hUs1 : yUs C H1 (j + 1) (a :: U) := by
        refine yUs_cons k ⟨hU.1, fun y => ?_⟩ ha hn (fun _ _ => rfl) hH1
        rw [hU.2 y]
        constructor
        · rintro ⟨q1, m, q2, q3⟩; exact ⟨q1, m, q2, (f1 m (by omega)).trans q3⟩
        · rintro ⟨q1, m, q2, q3⟩; exact ⟨q1, m, q2, (f1 m (by omega)).symm.trans q3⟩
      obtain ⟨v, o, g0, -⟩ := b (H1, G1, L, T)
      obtain ⟨G2, e2, c2⟩ := b_moveOn (L := L) (T := T) b k c1 hj (a0 := a + 1) (U := U) (.inr ⟨a, ha, hH1, rfl⟩) (fun y h1 h2 => by
        rw [yUs_free k c1 (by omega) hUs1 d1 h2]
        simp only [List.mem_cons, not_or]
        exact ⟨fun q => q.2, fun q => ⟨by omega, q⟩⟩)
      have hj1 : nI (j + 1) - 1 = nI j := nI_pred j
      cases e3 : yNx C.1 U (a + 1) with
      | none =>
        rw [e3] at e2 c2
        dsimp only at e2 c2
        refine ⟨upd H1 j (-9), G2, ?_, c2, fun m hm => (upd_n (by omega)).trans (f1 m (by omega)), fun m h1 h2 => ?_⟩
        · rw [e1, hj1]
          refine (E_X0_hangByNextPlan_10 ..).trans ?_
          simp only [if_neg (nI_pos (show j < 2 ^ 31 by omega)), o, if_true, e2, zcI_some, Int32.sub_eq_add_neg]
        · by_cases w : m = j
          · subst w; exact upd_s
          · exact (upd_n w).trans (d1 m (by omega) h2)
      | some y =>
        rw [e3] at e2 c2
        dsimp only at e2 c2
        have hy : y ∈ yF C.1 U := List.mem_of_find?_eq_some ((yNx_lt C.1 U a).trans e3)
        obtain ⟨y1, y2⟩ := yF_mem.mp hy
        have hU2 : yUs C (upd H1 j (nI y)) (j + 1) (y :: U) := by
          refine yUs_cons k hU y1 y2 (fun m hm => (upd_n (by omega)).trans (f1 m (by omega))) upd_s
        obtain ⟨H3, G3, e4, c4, f4, s4, l4⟩ := b_fill (L := L) (T := T) b k (nI j) s.length (j + 1) (y :: U) (upd H1 j (nI y)) G2 (by omega) c2 hU2 (fun m h3 h4 => (upd_n (by omega)).trans (d1 m (by omega) h4)) (by simp [hl])
        refine ⟨H3, G3, ?_, c4, fun m hm => (f4 m (by omega)).trans ((upd_n (by omega)).trans (f1 m (by omega))), ?_⟩
        · rw [e1, hj1]
          refine (E_X0_hangByNextPlan_10 ..).trans ?_
          simp only [if_neg (nI_pos (show j < 2 ^ 31 by omega)), o, if_true, e2, zcI_some, i01, if_false, nI_1]
          exact e4
        · refine ⟨by simp [l4]; omega, fun i hi => ?_⟩
          cases i with
          | zero => exact (f4 j (by omega)).trans upd_s
          | succ i =>
            have := s4.2 i (by simp [l4] at hi ⊢; omega)
            rw [show j + 1 + i = j + (i + 1) by omega] at this
            exact this
/-- all hang by a plan -/
def yHx (C : zCs) (H : zA) (p : List Nat) : Prop := p.length = C.2.1 ∧ ∀ i, i < C.2.1 → H i = nI (p.getD i 0)
theorem b_nextp (b : zBx r x c C F) (k : zCk C) {H G : zA} {p : List Nat} (g : zCG C H G) (hp : yHx C H p) (hb : ∀ a, a ∈ p → a < C.1) : ∃ H' G', zev r i_X0_hangByNextPlan 0 [some (.ref x), none, none] [] (F (H, G, L, T)) = some (none, F (H', G', L, T)) ∧ zCG C H' G' ∧ ∀ p', yS C.1 [] p = some p' → yHx C H' p' := by
  have k2 := k.2.1
  have k3 := k.2.2.1
  obtain ⟨v, o, g0, -⟩ := b (H, G, L, T)
  have hU0 : ∀ H : zA, yUs C H 0 [] := fun H => ⟨⟨List.nodup_nil, fun a ha => absurd ha (by simp)⟩, fun a => by simp⟩
  have nx := b_next (L := L) (T := T) b k p 0 [] H G g (hU0 H) rfl ⟨by rw [hp.1]; omega, fun i hi => by rw [Nat.zero_add]; exact hp.2 i (by rw [← hp.1]; exact hi)⟩ hb
  have st : zev r i_X0_hangByNextPlan 0 [some (.ref x), none, none] [] (F (H, G, L, T)) = zev r i_X0_hangByNextPlan 10 [some (.ref x), some (.int (nI C.2.1 - 1)), none] [] (F (H, G, L, T)) := by
    rw [E_X0_hangByNextPlan_0]
    simp only [g0, v.2.2.1, Option.bind_some]
  rw [st]
  cases e : yS C.1 [] p with
  | some s' =>
    rw [e] at nx
    obtain ⟨H', G', e1, c1, -, s1⟩ := nx
    refine ⟨H', G', e1, c1, fun p' hp' => ?_⟩
    cases hp'
    have l1 : s'.length = C.2.1 := by have := s1.1; omega
    exact ⟨l1, fun i hi => by have := s1.2 i (by omega); rwa [Nat.zero_add] at this⟩
  | none =>
    rw [e] at nx
    obtain ⟨H1, G1, e1, c1, -, d1⟩ := nx
    obtain ⟨v1, o1, g01, -⟩ := b (H1, G1, L, T)
    obtain ⟨H3, G3, e4, c4, -⟩ := b_fill (L := L) (T := T) b k (nI 0 - 1) C.2.1 0 [] H1 G1 (by omega) c1 (hU0 H1) (fun m _ h4 => d1 m (by omega) h4) rfl
    refine ⟨H3, G3, ?_, c4, fun p' hp' => absurd hp' (by simp)⟩
    rw [e1]
    refine (E_X0_hangByNextPlan_10 ..).trans ?_
    rw [if_pos (show nI 0 - 1 < 0 by decide)]
    exact e4
end NEXT
section LOOPS
variable {r : zE} {c0 c1 c2 : Nat} {I : Nat → Int32} {J : Nat → Int64} {Q : Nat → Nat → Int32} {N A : zBr} {Ga Va : Nat → Int32} {t : zH} {C : zCs} {c n : Nat}
def yPl (p : List Nat) : zA := fun i => nI (p.getD i 0)
theorem hx_pl {H : zA} {p : List Nat} (h : yHx C H p) : ∀ m, m < C.2.1 → H m = yPl p m := h.2
theorem pl_vd {H : zA} {p : List Nat} (h : yHx C H p) (hb : ∀ a, a ∈ p → a < C.1) : zVd C H := fun m hm => .inr ⟨p.getD m 0, hb _ (by
  rw [List.getD_eq_getElem?_getD, List.getElem?_eq_getElem (by rw [h.1]; exact hm)]
  exact List.getElem_mem _), h.2 m hm⟩
def yAo (C : zCs) (L : zA) (A : zBr) (p : List Nat) : Prop := zCG C A.1 A.2.1 ∧ yHx C A.1 p ∧ (∀ m, m < C.2.1 → A.2.2.1 m = L m) ∧ ∀ a, a ∈ p → a < C.1
def yPs (C : zCs) : List (List Nat) := yE C.1 [] C.2.1
theorem yU_nil (N : Nat) : yU N [] := ⟨List.nodup_nil, fun a ha => absurd ha (by simp)⟩
theorem yPs_mem {p : List Nat} (h : p ∈ yPs C) : p.length = C.2.1 ∧ ∀ a, a ∈ p → a < C.1 := by
  unfold yPs at h
  rw [yE_eq] at h
  exact yA_len (List.mem_filter.mp h).1
theorem yFst_range (N : Nat) : ∀ (n j : Nat) (U : List Nat), j + n ≤ N → (∀ a, a ∈ U ↔ a < j) → yFst N U n = List.range' j n
  | 0, _, _, _, _ => rfl
  | n + 1, j, U, h, hU => by
    have e : (yF N U).head? = some j := by
      rw [yNx_hd]
      exact yNx_some (Nat.zero_le _) (by omega) (fun q => by have := (hU j).mp q; omega) fun x _ hx => (hU x).mpr hx
    rw [yFst, e, List.range'_succ]
    dsimp only
    rw [yFst_range N n (j + 1) (j :: U) (by omega) fun a => by
      rw [List.mem_cons, hU]
      omega]
theorem yPs_head (k : zCk C) : ∃ l, yPs C = List.range C.2.1 :: l := by
  have h := yE_head (yU_nil C.1) (n := C.2.1) (by simpa using k.2.2.1)
  rw [yFst_range C.1 C.2.1 0 [] (by have := k.2.2.1; omega) (fun a => by simp), ← List.range_eq_range'] at h
  cases e : yPs C with
  | nil => unfold yPs at e; rw [e] at h; exact absurd h (by simp)
  | cons a l =>
    unfold yPs at e
    rw [e] at h
    simp only [List.head?_cons, Option.some.injEq] at h
    exact ⟨l, by rw [h]⟩
theorem a_begin (k : zCk C) (hC : zCt r t c C) (no : zNo C N) : ∃ A', zev r i_X5_beginPlans 0 [some (.ref (r.1 + 0))] [] (zmk r c c c2 I J Q N A Ga Va t) = some (none, (zmk r c c (c) I J Q N (A') Ga Va t)) ∧ yAo C N.2.2.1 A' (List.range C.2.1) := by
  have k3 := k.2.2.1
  have ax := aBx (r := r) (c0 := c) (c1 := c) (I := I) (J := J) (Q := Q) (N := N) (Ga := Ga) (Va := Va) hC
  obtain ⟨H', G', e1, h1, g1⟩ := b_first ax k (B := yCp N A)
  refine ⟨(H', G', (yCp N A).2.2.1, (yCp N A).2.2.2), ?_, g1, ⟨by simp, fun i hi => ?_⟩, cp_l k N A, fun a ha => by rw [List.mem_range] at ha; omega⟩
  · simp only [E_X5_beginPlans_0, mo_0, mg_0_0, mg_0_1, mg_0_2, mg_0_3, mg_0_4, mg_0_5, mg_0_6, mg_0_7, mg_0_8, mg_0_9, mg_0_10, mg_0_11, mo_14, Option.bind_some, if_true, a_copy, zcV_some, e1]
  · refine (h1 i hi).trans ?_
    rw [List.getD_eq_getElem?_getD, List.getElem?_range hi]
    rfl
theorem a_next (k : zCk C) (hC : zCt r t c C) {L : zA} {p : List Nat} (ao : yAo C L A p) : ∃ A', zev r i_X0_hangByNextPlan 0 [some (.ref (r.1 + 14)), none, none] [] (zmk r c0 c1 (c) I J Q N A Ga Va t) = some (none, (zmk r c0 c1 (c) I J Q N (A') Ga Va t)) ∧ zCG C A'.1 A'.2.1 ∧ (∀ m, m < C.2.1 → A'.2.2.1 m = L m) ∧ ∀ p', yS C.1 [] p = some p' → yHx C A'.1 p' := by
  have ax := aBx (r := r) (c0 := c0) (c1 := c1) (I := I) (J := J) (Q := Q) (N := N) (Ga := Ga) (Va := Va) hC
  obtain ⟨H', G', e1, g1, h1⟩ := b_nextp (L := A.2.2.1) (T := A.2.2.2) ax k ao.1 ao.2.1 ao.2.2.2
  exact ⟨(H', G', A.2.2.1, A.2.2.2), e1, g1, ao.2.2.1, h1⟩
theorem c_plans {α β : Type} (L : zA) (F : Nat → α → zBr → β) (g : α → List Nat → α) (Iv : α → Prop) (hs : ∀ n a A p, Iv a → n + 1 ≤ 117649 → p ∈ yPs C → yAo C L A p → Iv (g a p) ∧ ∃ A', F (n + 1) a A = F n (g a p) A' ∧ zCG C A'.1 A'.2.1 ∧ (∀ m, m < C.2.1 → A'.2.2.1 m = L m) ∧ ∀ p', yS C.1 [] p = some p' → yHx C A'.1 p') :
    ∀ (l : List (List Nat)) (a : α) (A : zBr), yRn (yS C.1 []) none l → (∀ p, p ∈ l → p ∈ yPs C) → l.length ≤ 117649 → Iv a → (∀ p, l.head? = some p → yAo C L A p) → ∃ A', F l.length a A = F 0 (l.foldl g a) A' ∧ Iv (l.foldl g a)
  | [], a, A, _, _, _, iv, _ => ⟨A, rfl, iv⟩
  | p :: l, a, A, hr, hm, hl, iv, ha => by
    obtain ⟨iv', A', e1, g1, l1, h1⟩ := hs l.length a A p iv hl (hm p List.mem_cons_self) (ha p rfl)
    obtain ⟨A2, e2, iv2⟩ := c_plans L F g Iv hs l (g a p) A' hr.2 (fun q hq => hm q (List.mem_cons_of_mem _ hq)) (by simp at hl; omega) iv' fun q hq => ⟨g1, h1 q (by
      have := hr.1
      rw [hq] at this
      exact this), l1, (yPs_mem (hm q (List.mem_cons_of_mem _ (List.mem_of_mem_head? (by rw [hq]; rfl))))).2⟩
    exact ⟨A2, by rw [List.length_cons, e1, e2]; rfl, iv2⟩
theorem yPc_le {N : Nat} (h : N ≤ 7) : ∀ n u : Nat, yPc N u n ≤ 7 ^ n
  | 0, _ => Nat.le_refl _
  | n + 1, u => by
    rw [yPc, Nat.pow_succ, Nat.mul_comm]
    exact Nat.mul_le_mul (yPc_le h n (u + 1)) (by omega)
theorem yPs_len (k : zCk C) : (yPs C).length = yPc C.1 0 C.2.1 ∧ (yPs C).length ≤ 117649 := by
  have h := yE_count (yU_nil C.1) (n := C.2.1) (by simpa using k.2.2.1)
  refine ⟨h, ?_⟩
  unfold yPs
  rw [h]
  refine Nat.le_trans (yPc_le k.1 _ _) ?_
  exact Nat.le_trans (Nat.pow_le_pow_right (by decide) k.2.1) (by decide)
theorem sPlans_eq (k : zCk C) : sPlans C = nI (yPs C).length := by
  rw [(yPs_len k).1]
  have : ∀ n j a : Nat, j + n ≤ C.1 → zfd (fun (a : Int32) m => a * (nI C.1 - nI m)) j n (nI a) = nI (a * yPc C.1 j n) := by
    intro n
    induction n with
    | zero => intro j a _; simp [zfd, yPc]
    | succ n ih =>
      intro j a h
      rw [zfd, pk_sub (by omega), pk_mul, ih (j + 1) _ (by omega), yPc, Nat.mul_assoc]
  have e := this C.2.1 0 1 (by have := k.2.2.1; omega)
  rw [Nat.one_mul] at e
  exact e
theorem c_all {α β : Type} (k : zCk C) (L : zA) (F : Nat → α → zBr → β) (g : α → List Nat → α) (Iv : α → Prop) (hs : ∀ n a A p, Iv a → n + 1 ≤ 117649 → p ∈ yPs C → yAo C L A p → Iv (g a p) ∧ ∃ A', F (n + 1) a A = F n (g a p) A' ∧ zCG C A'.1 A'.2.1 ∧ (∀ m, m < C.2.1 → A'.2.2.1 m = L m) ∧ ∀ p', yS C.1 [] p = some p' → yHx C A'.1 p') (a : α) (A : zBr) (iv : Iv a) (ao : yAo C L A (List.range C.2.1)) :
    ∃ A', F (yPs C).length a A = F 0 ((yPs C).foldl g a) A' ∧ Iv ((yPs C).foldl g a) := by
  obtain ⟨l, el⟩ := yPs_head k
  refine c_plans L F g Iv hs (yPs C) a A (yE_run (yU_nil C.1) (by simpa using k.2.2.1)) (fun _ h => h) (yPs_len k).2 iv fun p hp => ?_
  rw [el] at hp
  simp only [List.head?_cons, Option.some.injEq] at hp
  subst hp
  exact ao
end LOOPS
