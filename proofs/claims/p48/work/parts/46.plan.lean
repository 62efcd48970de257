/-! PLANS: what is so of the best ones, of the mean, of messmates -/
theorem yA_mem {N : Nat} : ∀ {n : Nat} {x : List Nat}, x.length = n → (∀ a, a ∈ x → a < N) → x ∈ yA N n
  | 0, x, h, _ => by
    have : x = [] := List.length_eq_zero_iff.mp h
    subst this
    simp [yA]
  | n + 1, x, h, hb => by
    cases x with
    | nil => simp at h
    | cons a x =>
      simp only [yA, List.mem_flatMap, List.mem_map, List.mem_range]
      exact ⟨a, hb a List.mem_cons_self, x, yA_mem (by simpa using h) fun b hx => hb b (List.mem_cons_of_mem _ hx), rfl⟩
section PLANS
variable {C : zCs} {H L : zA}
theorem yPs_of {p : List Nat} (h1 : p.length = C.2.1) (h2 : ∀ a, a ∈ p → a < C.1) (nd : p.Nodup) : p ∈ yPs C := by
  unfold yPs
  rw [yE_eq, List.mem_filter]
  refine ⟨yA_mem h1 h2, ?_⟩
  unfold yP
  rw [decide_eq_true_eq]
  exact ⟨nd, fun a _ => by simp⟩
/-- who all hang hang by a plan -/
theorem all_plan (k : zCk C) (v : zVI C H) (ah : ∀ m, m < C.2.1 → ¬ H m = -9) : ∃ p, p ∈ yPs C ∧ ∀ m, m < C.2.1 → H m = yPl p m := by
  have k1 := k.1
  have hv : ∀ m, m < C.2.1 → ∃ a, a < C.1 ∧ H m = nI a := fun m hm => (v.1 m hm).resolve_left (ah m hm)
  have gt : ∀ m, m < C.2.1 → H m = nI ((H m).toNatClampNeg) ∧ (H m).toNatClampNeg < C.1 := fun m hm => by
    obtain ⟨a, ha, ea⟩ := hv m hm
    rw [ea, nI_clamp (by omega)]
    exact ⟨rfl, ha⟩
  refine ⟨(List.range C.2.1).map fun m => (H m).toNatClampNeg, yPs_of (by simp) (fun a ha => ?_) ?_, fun m hm => ?_⟩
  · rw [List.mem_map] at ha
    obtain ⟨m, hm, e⟩ := ha
    rw [← e]
    exact (gt m (by simpa using hm)).2
  · unfold List.Nodup
    rw [List.pairwise_map]
    refine List.Pairwise.imp_of_mem (fun {a b} ha hb hab => ?_) List.nodup_range
    rw [List.mem_range] at ha hb
    intro q
    exact hab (v.2 a b ha hb (by rw [(gt a ha).1, (gt b hb).1, q]) (ah a ha))
  · unfold yPl
    rw [List.getD_eq_getElem?_getD, List.getElem?_map, List.getElem?_range hm]
    exact (gt m hm).1
theorem pl_vi {p : List Nat} (h : p ∈ yPs C) (k1 : C.1 ≤ 7) : zVI C (yPl p) := by
  obtain ⟨h1, h2⟩ := yPs_mem h
  have nd := yPs_nd h
  have lt : ∀ i, i < C.2.1 → p.getD i 0 < C.1 := fun i hi => h2 _ (by
    rw [List.getD_eq_getElem?_getD, List.getElem?_eq_getElem (by omega)]
    exact List.getElem_mem _)
  refine ⟨fun m hm => .inr ⟨p.getD m 0, lt m hm, rfl⟩, fun m q hm hq e _ => ?_⟩
  have a1 := lt m hm
  have a2 := lt q hq
  unfold yPl at e
  exact getD_inj nd (by omega) (by omega) ((nI_eq (by omega) (by omega)).mp e)
/-- who is woken most is woken no more than all -/
theorem most_all (k : zCk C) (l : zLk C L) (v : zVd C H) (w : Int32) : ∃ x y, x ≤ y ∧ y ≤ 1200 ∧ sMost C H L w = nI x ∧ sAll C H L w = nI y := by
  have k2 := k.2.1
  suffices key : ∀ n : Nat, n ≤ C.2.1 → ∃ x y, x ≤ y ∧ y ≤ 200 * n ∧ zfd (fun a m => if a < sWo C H L m w (-9) then sWo C H L m w (-9) else a) 0 n 0 = nI x ∧ zfd (fun a m => a + sWo C H L m w (-9)) 0 n 0 = nI y by
    obtain ⟨x, y, h1, h2, h3, h4⟩ := key C.2.1 (Nat.le_refl _)
    exact ⟨x, y, h1, by omega, h3, h4⟩
  intro n
  induction n with
  | zero => exact fun _ => ⟨0, 0, Nat.le_refl _, Nat.le_refl _, rfl, rfl⟩
  | succ n ih =>
    intro hn
    obtain ⟨x, y, h1, h2, h3, h4⟩ := ih (by omega)
    obtain ⟨z, hz, ez⟩ := lim_sWo k l v (show n < C.2.1 by omega) w (-9)
    rw [zfd_succ, zfd_succ, Nat.zero_add, h3, h4, ez, nI_add]
    by_cases c : nI x < nI z
    · rw [if_pos c]; exact ⟨z, y + z, by omega, by omega, rfl, rfl⟩
    · rw [if_neg c]; exact ⟨x, y + z, by omega, by omega, rfl, rfl⟩
theorem val_0 (w : Int32) (p : List Nat) : yVal C L 0 w p = sAll C (yPl p) L w := if_pos rfl
theorem val_1 (w : Int32) (p : List Nat) : yVal C L 1 w p = sMost C (yPl p) L w := by
  unfold yVal
  rw [if_neg (by decide), if_pos rfl]
theorem val_2 (w : Int32) (p : List Nat) : yVal C L 2 w p = sAll C (yPl p) L 1 + sAll C (yPl p) L 2 := by
  unfold yVal
  rw [if_neg (by decide), if_neg (by decide)]
/-- best: told as a number, no plan is better -/
theorem best_ok (k : zCk C) (l : zLk C L) (w : Int32) : ∃ x, x ≤ 1200 ∧ (yBp C L 0 w).1 = nI x ∧ (yBp C L 0 w).2 ∈ yPs C ∧ sAll C (yPl (yBp C L 0 w).2) L w = nI x ∧ ∀ p, p ∈ yPs C → ∃ y, x ≤ y ∧ y ≤ 1200 ∧ sAll C (yPl p) L w = nI y := by
  obtain ⟨h1, h2, h3⟩ := bp_best k l 0 w
  have lim : ∀ p, p ∈ yPs C → ∃ y, y ≤ 1200 ∧ sAll C (yPl p) L w = nI y := fun p hp => lim_sAll k l (pl_vi hp k.1).1 w
  obtain ⟨x, hx, ex⟩ := lim _ h1
  rw [val_0] at h2
  refine ⟨x, hx, h2.trans ex, h1, ex, fun p hp => ?_⟩
  obtain ⟨y, hy, ey⟩ := lim p hp
  refine ⟨y, ?_, hy, ey⟩
  have := h3 p hp
  rw [val_0, ey, h2, ex, nI_ltI (by omega) (by omega)] at this
  omega
theorem fair_ok (k : zCk C) (l : zLk C L) (w : Int32) : ∃ x, x ≤ 1200 ∧ (yBp C L 1 w).1 = nI x ∧ (yBp C L 1 w).2 ∈ yPs C ∧ (∃ y, x ≤ y ∧ y ≤ 1200 ∧ sAll C (yPl (yBp C L 1 w).2) L w = nI y) ∧ ∀ p, p ∈ yPs C → ∃ y, x ≤ y ∧ y ≤ 1200 ∧ sAll C (yPl p) L w = nI y := by
  obtain ⟨h1, h2, h3⟩ := bp_best k l 1 w
  have lim : ∀ p, p ∈ yPs C → ∃ x y, x ≤ y ∧ y ≤ 1200 ∧ sMost C (yPl p) L w = nI x ∧ sAll C (yPl p) L w = nI y := fun p hp => most_all k l (pl_vi hp k.1).1 w
  obtain ⟨x, y, hxy, hy, ex, ey⟩ := lim _ h1
  rw [val_1] at h2
  refine ⟨x, by omega, h2.trans ex, h1, ⟨y, hxy, hy, ey⟩, fun p hp => ?_⟩
  obtain ⟨x', y', hxy', hy', ex', ey'⟩ := lim p hp
  refine ⟨y', ?_, hy', ey'⟩
  have := h3 p hp
  rw [val_1, ex', h2, ex, nI_ltI (by omega) (by omega)] at this
  omega
theorem mixed_ok (k : zCk C) (l : zLk C L) : ∃ x y, x ≤ 1200 ∧ y ≤ 1200 ∧ (yBp C L 2 0).1 = nI x + nI y ∧ (yBp C L 2 0).2 ∈ yPs C ∧ sAll C (yPl (yBp C L 2 0).2) L 1 = nI x ∧ sAll C (yPl (yBp C L 2 0).2) L 2 = nI y ∧ ∀ p, p ∈ yPs C → ∃ x' y', x' ≤ 1200 ∧ y' ≤ 1200 ∧ x + y ≤ x' + y' ∧ sAll C (yPl p) L 1 = nI x' ∧ sAll C (yPl p) L 2 = nI y' := by
  obtain ⟨h1, h2, h3⟩ := bp_best k l 2 0
  have lim : ∀ w p, p ∈ yPs C → ∃ y, y ≤ 1200 ∧ sAll C (yPl p) L w = nI y := fun w p hp => lim_sAll k l (pl_vi hp k.1).1 w
  obtain ⟨x, hx, ex⟩ := lim 1 _ h1
  obtain ⟨y, hy, ey⟩ := lim 2 _ h1
  rw [val_2, ex, ey] at h2
  refine ⟨x, y, hx, hy, h2, h1, ex, ey, fun p hp => ?_⟩
  obtain ⟨x', hx', ex'⟩ := lim 1 p hp
  obtain ⟨y', hy', ey'⟩ := lim 2 p hp
  refine ⟨x', y', hx', hy', ?_, ex', ey'⟩
  have := h3 p hp
  rw [val_2, ex', ey', h2, nI_add, nI_add, nI_ltI (by omega) (by omega)] at this
  omega
/-- the sum over all plans is as many times the least at least -/
theorem sum_ge (k : zCk C) (l : zLk C L) (w : Int32) {x : Nat} (h : ∀ p, p ∈ yPs C → ∃ y, x ≤ y ∧ y ≤ 1200 ∧ sAll C (yPl p) L w = nI y) : ∀ (ps : List (List Nat)) (a : Nat), (∀ p, p ∈ ps → p ∈ yPs C) → ∃ s, a + x * ps.length ≤ s ∧ s ≤ a + 1200 * ps.length ∧ ps.foldl (ySm C L w) (lN a) = lN s
  | [], a, _ => ⟨a, by simp, by simp, rfl⟩
  | p :: ps, a, hp => by
    obtain ⟨y, h1, h2, h3⟩ := h p (hp p List.mem_cons_self)
    obtain ⟨s, g1, g2, g3⟩ := sum_ge k l w h ps (a + y) fun q hq => hp q (List.mem_cons_of_mem _ hq)
    refine ⟨s, ?_, ?_, ?_⟩
    · rw [List.length_cons, Nat.mul_succ]; omega
    · rw [List.length_cons, Nat.mul_succ]; omega
    · rw [List.foldl_cons, show ySm C L w (lN a) p = lN (a + y) by unfold ySm; rw [h3, nI_l (by omega), lN_add]]
      exact g3
theorem lN_inj {a b : Nat} (ha : a < 2 ^ 63) (hb : b < 2 ^ 63) (h : lN a = lN b) : a = b := (pk_lEQ ha hb).mp h
/-- the mean is the least at least -/
theorem mid_ok (k : zCk C) (l : zLk C L) (w : Int32) {x s : Nat} (hx : x ≤ 1200) (h : ∀ p, p ∈ yPs C → ∃ y, x ≤ y ∧ y ≤ 1200 ∧ sAll C (yPl p) L w = nI y) (hs : s ≤ 1200 * (yPs C).length) (e : (yPs C).foldl (ySm C L w) (lN 0) = lN s) : ¬ lg_cmp (lN s / lN (Nat.gcd (yPs C).length s)) ((nI x).toInt64 * (lN (yPs C).length / lN (Nat.gcd (yPs C).length s))) < 0 ∧ ¬ lg_cmp (lN (yPs C).length / lN (Nat.gcd (yPs C).length s)) 1 < 0 := by
  have lp := (yPs_len k).2
  obtain ⟨l0, el⟩ := yPs_head k
  have lpos : 0 < (yPs C).length := by rw [el]; simp
  obtain ⟨s', g1, g2, g3⟩ := sum_ge k l w h (yPs C) 0 fun _ h => h
  have : s' = s := lN_inj (by omega) (by omega) (g3.symm.trans e)
  subst this
  generalize (yPs C).length = N at *
  have gd1 : Nat.gcd N s' ∣ N := Nat.gcd_dvd_left N s'
  have gd2 : Nat.gcd N s' ∣ s' := Nat.gcd_dvd_right N s'
  have gpos : 0 < Nat.gcd N s' := Nat.gcd_pos_of_pos_left _ lpos
  have gle : Nat.gcd N s' ≤ N := Nat.le_of_dvd lpos gd1
  generalize Nat.gcd N s' = g at *
  obtain ⟨a, rfl⟩ := gd1
  obtain ⟨b, rfl⟩ := gd2
  have a0 : 1 ≤ a := Nat.pos_of_ne_zero fun q => by rw [q, Nat.mul_zero] at lpos; omega
  have ab : x * a ≤ b := by
    rw [Nat.zero_add] at g1
    refine Nat.le_of_mul_le_mul_left (c := g) ?_ gpos
    rw [Nat.mul_left_comm]
    exact g1
  have hb : b ≤ g * b := Nat.le_mul_of_pos_left b gpos
  have ha : a ≤ g * a := Nat.le_mul_of_pos_left a gpos
  have hxa : x * a ≤ 1200 * 117649 := Nat.mul_le_mul hx (by omega)
  rw [pk_lDiv (by omega) gpos (by omega), pk_lDiv (by omega) gpos (by omega), Nat.mul_div_cancel_left _ gpos, Nat.mul_div_cancel_left _ gpos, nI_l (by omega), lN_mul]
  have nlt : ∀ {p q : Nat}, p < 2 ^ 62 → q ≤ p → ¬ lg_cmp (lN p) (lN q) < 0 := fun {p q} hp hq => by
    unfold lg_cmp
    by_cases c : lN p > lN q
    · rw [if_pos c]; decide
    · rw [if_neg c]
      have : lN p = lN q := by
        have h1 := mt (pk_lLT (a := q) (b := p) (by omega) (by omega)).mpr c
        have : p = q := by omega
        rw [this]
      rw [if_pos this]; decide
  exact ⟨nlt (by omega) ab, nlt (q := 1) (by omega) a0⟩
end PLANS
