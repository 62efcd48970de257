/-! READING a deck's text: what is read; the class's reader -/
/-- place; hooks, men; places, kinds, lines, watches, messes -/
abbrev zRd : Type := Nat × Nat × Nat × zA × zA × zA × zA × zA
section READ
variable (T : zA) (n : Nat)
def rSk : Nat → Nat → Nat
  | 0, p => p
  | f + 1, p => if p < n then if T p = 32 then rSk f (p + 1) else p else p
def rLt (g : zA) (v : Int32) : Nat → Nat → Int32
  | _, 0 => -9
  | j, k + 1 => if v = g j then nI j else rLt g v (j + 1) k
def rHk : Nat → zRd → Bool × zRd
  | 0, s => (false, s)
  | f + 1, s => if s.1 < n then
      if rLt zPL (T s.1) 0 5 = -9 then (!decide (s.2.1 < 2), s)
      else if s.2.1 = 7 then (false, s)
      else rHk f (s.1 + 1, s.2.1 + 1, s.2.2.1, upd s.2.2.2.1 s.2.1 (rLt zPL (T s.1) 0 5), s.2.2.2.2)
    else (!decide (s.2.1 < 2), s)
def rFg (lo hi p : Nat) : Bool := decide (p < n) && decide (zbw (nI (48 + lo)) (nI (48 + hi)) (T p) = 1)
def rMn (s : zRd) : Bool × zRd :=
    if rLt zKL (T s.1) 0 6 = -9 then (false, s)
    else if rFg T n 1 9 (s.1 + 1) = true then
      if rFg T n 0 1 (s.1 + 2) = true then
        if rFg T n 0 3 (s.1 + 3) = true then (true, s.1 + 4, s.2.1, s.2.2.1 + 1, s.2.2.2.1, upd s.2.2.2.2.1 s.2.2.1 (rLt zKL (T s.1) 0 6), upd s.2.2.2.2.2.1 s.2.2.1 (T (s.1 + 1) - 48), upd s.2.2.2.2.2.2.1 s.2.2.1 (T (s.1 + 2) - 48), upd s.2.2.2.2.2.2.2 s.2.2.1 (T (s.1 + 3) - 48))
        else (false, s.1 + 3, s.2)
      else (false, s.1 + 2, s.2)
    else (false, s.1 + 1, s.2)
def rMs : Nat → zRd → Int32 × zRd
  | 0, s => (if s.1 < n then nI s.1 else if 0 < s.2.2.1 then -9 else nI s.1, s)
  | f + 1, s => if s.1 < n then
      if s.2.2.1 < 6 ∧ s.2.2.1 < s.2.1 then
        if (rMn T n s).1 = true then rMs f (rSk T n 60 (rMn T n s).2.1, (rMn T n s).2.2)
        else (nI (rMn T n s).2.1, (rMn T n s).2)
      else (nI s.1, s)
    else (if 0 < s.2.2.1 then -9 else nI s.1, s)
def rZ : zA × zA × zA × zA × zA := (fun _ => 0, fun _ => 0, fun _ => 0, fun _ => 0, fun _ => 0)
def rGo (s : zRd) : Bool × zRd := if s.1 < n ∧ T s.1 = 107 then rHk T n 61 (s.1 + 1, s.2) else (false, s)
def rAll : Int32 × zRd := if (rGo T n (rSk T n 60 0, 0, 0, rZ)).1 = true then rMs T n 6 (rSk T n 60 (rGo T n (rSk T n 60 0, 0, 0, rZ)).2.1, (rGo T n (rSk T n 60 0, 0, 0, rZ)).2.2) else (nI (rGo T n (rSk T n 60 0, 0, 0, rZ)).2.1, (rGo T n (rSk T n 60 0, 0, 0, rZ)).2)
/-- what holds of what has been read -/
def rI (s : zRd) : Prop := s.1 ≤ n ∧ s.2.1 ≤ 7 ∧ s.2.2.1 ≤ 6 ∧ s.2.2.1 ≤ s.2.1 ∧ (∀ i, i < s.2.1 → ∃ q, q < 5 ∧ s.2.2.2.1 i = nI q) ∧ ∀ i, i < s.2.2.1 → (∃ q, q < 6 ∧ s.2.2.2.2.1 i = nI q) ∧ ∃ a, a < 10 ∧ s.2.2.2.2.2.1 i = nI a
end READ
section RI
variable {T : zA} {n : Nat}
theorem rSk_le : ∀ {f p : Nat}, p ≤ n → rSk T n f p ≤ n
  | 0, p, h => h
  | f + 1, p, h => by
    rw [rSk]
    split
    · split
      · exact rSk_le (by omega)
      · exact h
    · exact h
theorem rLt_in {g : zA} {v : Int32} : ∀ {k j : Nat}, rLt g v j k = -9 ∨ ∃ i, i < j + k ∧ rLt g v j k = nI i
  | 0, _ => .inl rfl
  | k + 1, j => by
    rw [rLt]
    split
    · exact .inr ⟨j, by omega, rfl⟩
    · rcases rLt_in (g := g) (v := v) (k := k) (j := j + 1) with e | ⟨i, h, e⟩
      · exact .inl e
      · exact .inr ⟨i, by omega, e⟩
theorem rHk_I : ∀ {f : Nat} {s : zRd}, rI n s → rI n (rHk T n f s).2 ∧ (rHk T n f s).2.2.2.1 = s.2.2.1 ∧ (rHk T n f s).2.2.2.2.2 = s.2.2.2.2
  | 0, s, h => ⟨h, rfl, rfl⟩
  | f + 1, s, h => by
    rw [rHk]
    by_cases c1 : s.1 < n
    · rw [if_pos c1]
      by_cases c2 : rLt zPL (T s.1) 0 5 = -9
      · rw [if_pos c2]; exact ⟨h, rfl, rfl⟩
      · rw [if_neg c2]
        by_cases c3 : s.2.1 = 7
        · rw [if_pos c3]; exact ⟨h, rfl, rfl⟩
        · rw [if_neg c3]
          obtain ⟨h1, h2, h3, h4, h5, h6⟩ := h
          refine rHk_I (f := f) (s := (s.1 + 1, s.2.1 + 1, s.2.2.1, upd s.2.2.2.1 s.2.1 (rLt zPL (T s.1) 0 5), s.2.2.2.2)) ⟨by dsimp only; omega, by dsimp only; omega, h3, by dsimp only; omega, fun i hi => ?_, h6⟩
          dsimp only at hi ⊢
          by_cases e : i = s.2.1
          · rw [e, upd_s]
            obtain ⟨q, hq, eq⟩ := rLt_in.resolve_left c2
            exact ⟨q, by omega, eq⟩
          · rw [upd_n e]
            exact h5 i (by omega)
    · rw [if_neg c1]; exact ⟨h, rfl, rfl⟩
theorem fig_eq {lo hi : Nat} (h9 : hi ≤ 9) (hl : lo ≤ hi) (v : Int32) : (v - 48 < nI lo ∨ nI hi < v - 48) ↔ ¬ zbw (nI (48 + lo)) (nI (48 + hi)) v = 1 := by
  constructor
  · intro c q
    unfold zbw at q
    by_cases a : v < nI (48 + lo)
    · rw [if_pos a] at q; exact absurd q (by decide)
    · rw [if_neg a] at q
      by_cases b : nI (48 + hi) < v
      · rw [if_pos b] at q; exact absurd q (by decide)
      · obtain ⟨w, hw, e⟩ := nI_of (x := v) (fun z => a (Int32.lt_of_lt_of_le z (nI_pos' (by omega))))
        subst e
        rw [nI_ltI hw (by omega)] at a
        rw [nI_ltI (by omega) hw] at b
        rw [show (48 : Int32) = nI 48 from rfl, pk_sub (by omega), nI_ltI (by omega) (by omega), nI_ltI (by omega) (by omega)] at c
        omega
  · intro q
    by_cases c : v - 48 < nI lo
    · exact .inl c
    · by_cases d : nI hi < v - 48
      · exact .inr d
      · exfalso
        apply q
        obtain ⟨w, hw, e⟩ := nI_of (x := v - 48) (fun z => c (Int32.lt_of_lt_of_le z (nI_pos' (by omega))))
        rw [e, nI_ltI hw (by omega)] at c
        rw [e, nI_ltI (by omega) hw] at d
        have ev : v = nI (w + 48) := by
          rw [← nI_add, ← e]
          exact (Int32.sub_add_cancel v 48).symm
        rw [ev]
        unfold zbw
        rw [if_neg (nI_nlt (by omega) (by omega)), if_neg (nI_nlt (by omega) (by omega))]
theorem fig_of {lo hi p : Nat} (h9 : hi ≤ 9) (hl : lo ≤ hi) (q : rFg T n lo hi p = true) : p < n ∧ zbw (nI (48 + lo)) (nI (48 + hi)) (T p) = 1 ∧ ∃ a, a < 10 ∧ T p - 48 = nI a := by
  unfold rFg at q
  rw [Bool.and_eq_true, decide_eq_true_eq, decide_eq_true_eq] at q
  refine ⟨q.1, q.2, ?_⟩
  have h := mt (fig_eq h9 hl (T p)).mp (fun z => z q.2)
  rw [not_or] at h
  obtain ⟨w, hw, e⟩ := nI_of (x := T p - 48) (fun z => h.1 (Int32.lt_of_lt_of_le z (nI_pos' (by omega))))
  have h2 := h.2
  rw [e, nI_ltI (by omega) hw] at h2
  exact ⟨w, by omega, e⟩
theorem rMn_I {s : zRd} (h : rI n s) (h1 : s.1 < n) (h2 : s.2.2.1 < 6) (h3 : s.2.2.1 < s.2.1) : rI n (rMn T n s).2 ∧ (rMn T n s).2.2.1 = s.2.1 ∧ ((rMn T n s).1 = true → (rMn T n s).2.2.2.1 = s.2.2.1 + 1) := by
  obtain ⟨i1, i2, i3, i4, i5, i6⟩ := h
  unfold rMn
  by_cases c1 : rLt zKL (T s.1) 0 6 = -9
  · rw [if_pos c1]; exact ⟨⟨i1, i2, i3, i4, i5, i6⟩, rfl, fun q => absurd q (by simp)⟩
  · rw [if_neg c1]
    by_cases c2 : rFg T n 1 9 (s.1 + 1) = true
    · rw [if_pos c2]
      by_cases c3 : rFg T n 0 1 (s.1 + 2) = true
      · rw [if_pos c3]
        by_cases c4 : rFg T n 0 3 (s.1 + 3) = true
        · rw [if_pos c4]
          have f4 := (fig_of (by decide) (by decide) c4).1
          refine ⟨⟨by dsimp only; omega, i2, by dsimp only; omega, by dsimp only; omega, i5, fun i hi => ?_⟩, rfl, fun _ => rfl⟩
          dsimp only at hi ⊢
          by_cases e : i = s.2.2.1
          · rw [e, upd_s, upd_s]
            obtain ⟨q, hq, eq⟩ := rLt_in.resolve_left c1
            exact ⟨⟨q, by omega, eq⟩, (fig_of (by decide) (by decide) c2).2.2⟩
          · rw [upd_n e, upd_n e]
            exact i6 i (by omega)
        · rw [if_neg c4]
          have f3 := (fig_of (by decide) (by decide) c3).1
          exact ⟨⟨by dsimp only; omega, i2, i3, i4, i5, i6⟩, rfl, fun q => absurd q (by simp)⟩
      · rw [if_neg c3]
        have f2 := (fig_of (by decide) (by decide) c2).1
        exact ⟨⟨by dsimp only; omega, i2, i3, i4, i5, i6⟩, rfl, fun q => absurd q (by simp)⟩
    · rw [if_neg c2]
      exact ⟨⟨by dsimp only; omega, i2, i3, i4, i5, i6⟩, rfl, fun q => absurd q (by simp)⟩
theorem rSk_I {s : zRd} (f : Nat) (h : rI n s) : rI n (rSk T n f s.1, s.2) := ⟨rSk_le h.1, h.2⟩
theorem rMs_I : ∀ {f : Nat} {s : zRd}, rI n s → rI n (rMs T n f s).2 ∧ ((rMs T n f s).1 = -9 → n ≤ 60 → 0 < (rMs T n f s).2.2.2.1)
  | 0, s, h => by
    rw [rMs]
    refine ⟨h, fun q hn => ?_⟩
    dsimp only at q ⊢
    have := h.1
    split at q
    · exact absurd q (nI_n9 (by omega))
    · split at q
      · assumption
      · exact absurd q (nI_n9 (by omega))
  | f + 1, s, h => by
    rw [rMs]
    by_cases c1 : s.1 < n
    · rw [if_pos c1]
      by_cases c2 : s.2.2.1 < 6 ∧ s.2.2.1 < s.2.1
      · rw [if_pos c2]
        have i := (rMn_I (T := T) h c1 c2.1 c2.2).1
        by_cases c3 : (rMn T n s).1 = true
        · rw [if_pos c3]
          exact rMs_I (rSk_I 60 i)
        · rw [if_neg c3]
          exact ⟨i, fun q hn => absurd q (nI_n9 (by have := i.1; omega))⟩
      · rw [if_neg c2]
        exact ⟨h, fun q hn => absurd q (nI_n9 (by omega))⟩
    · rw [if_neg c1]
      refine ⟨h, fun q hn => ?_⟩
      dsimp only at q ⊢
      have := h.1
      split at q
      · assumption
      · exact absurd q (nI_n9 (by omega))
/-- the men leave the hooks as they are -/
theorem rMn_h {s : zRd} : (rMn T n s).2.2.1 = s.2.1 ∧ (rMn T n s).2.2.2.2.1 = s.2.2.2.1 := by
  unfold rMn
  repeat' split
  all_goals exact ⟨rfl, rfl⟩
theorem rMs_h : ∀ {f : Nat} {s : zRd}, (rMs T n f s).2.2.1 = s.2.1 ∧ (rMs T n f s).2.2.2.2.1 = s.2.2.2.1
  | 0, s => ⟨rfl, rfl⟩
  | f + 1, s => by
    rw [rMs]
    have h := rMn_h (T := T) (n := n) (s := s)
    split
    · split
      · split
        · have := rMs_h (f := f) (s := (rSk T n 60 (rMn T n s).2.1, (rMn T n s).2.2))
          exact ⟨this.1.trans h.1, this.2.trans h.2⟩
        · exact h
      · exact ⟨rfl, rfl⟩
    · exact ⟨rfl, rfl⟩
theorem rGo_I {s : zRd} (h : rI n s) : rI n (rGo T n s).2 ∧ (rGo T n s).2.2.2.1 = s.2.2.1 ∧ (rGo T n s).2.2.2.2.2 = s.2.2.2.2 := by
  unfold rGo
  by_cases c : s.1 < n ∧ T s.1 = 107
  · rw [if_pos c]
    exact rHk_I (s := (s.1 + 1, s.2)) ⟨by dsimp only; omega, h.2⟩
  · rw [if_neg c]
    exact ⟨h, rfl, rfl⟩
theorem rZ_I {p : Nat} (h : p ≤ n) : rI n (p, 0, 0, rZ) := ⟨h, Nat.zero_le 7, Nat.zero_le 6, Nat.le_refl 0, fun i hi => absurd hi (Nat.not_lt_zero _), fun i hi => absurd hi (Nat.not_lt_zero _)⟩
theorem rAll_I (hn : n ≤ 60) : rI n (rAll T n).2 ∧ ((rAll T n).1 = -9 → 0 < (rAll T n).2.2.2.1) := by
  have i := (rGo_I (T := T) (rZ_I (n := n) (rSk_le (T := T) (f := 60) (Nat.zero_le n)))).1
  unfold rAll
  by_cases c : (rGo T n (rSk T n 60 0, 0, 0, rZ)).1 = true
  · rw [if_pos c]
    have := rMs_I (T := T) (f := 6) (rSk_I (T := T) 60 i)
    exact ⟨this.1, fun q => this.2 q hn⟩
  · rw [if_neg c]
    exact ⟨i, fun q => absurd q (nI_n9 (by have := i.1; omega))⟩
end RI
