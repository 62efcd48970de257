/-! READING a deck's text: what is read; the class's reader -/
/-- place; hooks, men; places, kinds, lines, watches, messes -/
abbrev zRd : Type := Nat × Nat × Nat × zA × zA × zA × zA × zA
section READ
variable (T : zA) (n : Nat)
def rSk : Nat → Nat → Nat
  | 0, p => p
  | f + 1, p => if p < n then if T p = 32 then rSk f (p + 1) else p else p
def rLt (g : zA) (v : Int32) : Nat → Nat → Int32
  | _, 0 => -9
  | j, k + 1 => if v = g j then nI j else rLt g v (j + 1) k
def rHk : Nat → zRd → Bool × zRd
  | 0, s => (false, s)
  | f + 1, s => if s.1 < n then
      if rLt zPL (T s.1) 0 5 = -9 then (!decide (s.2.1 < 2), s)
      else if s.2.1 = 7 then (false, s)
      else rHk f (s.1 + 1, s.2.1 + 1, s.2.2.1, upd s.2.2.2.1 s.2.1 (rLt zPL (T s.1) 0 5), s.2.2.2.2)
    else (!decide (s.2.1 < 2), s)
def rFg (lo hi p : Nat) : Bool := decide (p < n) && decide (zbw (nI (48 + lo)) (nI (48 + hi)) (T p) = 1)
def rMn (s : zRd) : Bool × zRd :=
    if rLt zKL (T s.1) 0 6 = -9 then (false, s)
    else if rFg T n 1 9 (s.1 + 1) = true then
      if rFg T n 0 1 (s.1 + 2) = true then
        if rFg T n 0 3 (s.1 + 3) = true then (true, s.1 + 4, s.2.1, s.2.2.1 + 1, s.2.2.2.1, upd s.2.2.2.2.1 s.2.2.1 (rLt zKL (T s.1) 0 6), upd s.2.2.2.2.2.1 s.2.2.1 (T (s.1 + 1) - 48), upd s.2.2.2.2.2.2.1 s.2.2.1 (T (s.1 + 2) - 48), upd s.2.2.2.2.2.2.2 s.2.2.1 (T (s.1 + 3) - 48))
        else (false, s.1 + 3, s.2)
      else (false, s.1 + 2, s.2)
    else (false, s.1 + 1, s.2)
def rMs : Nat → zRd → Int32 × zRd
  | 0, s => (if s.1 < n then nI s.1 else if 0 < s.2.2.1 then -9 else nI s.1, s)
  | f + 1, s => if s.1 < n then
      if s.2.2.1 < 6 ∧ s.2.2.1 < s.2.1 then
        if (rMn T n s).1 = true then rMs f (rSk T n 60 (rMn T n s).2.1, (rMn T n s).2.2)
        else (nI (rMn T n s).2.1, (rMn T n s).2)
      else (nI s.1, s)
    else (if 0 < s.2.2.1 then -9 else nI s.1, s)
def rZ : zA × zA × zA × zA × zA := (fun _ => 0, fun _ => 0, fun _ => 0, fun _ => 0, fun _ => 0)
def rGo (s : zRd) : Bool × zRd := if s.1 < n ∧ T s.1 = 107 then rHk T n 61 (s.1 + 1, s.2) else (false, s)
def rAll : Int32 × zRd := if (rGo T n (rSk T n 60 0, 0, 0, rZ)).1 = true then rMs T n 6 (rSk T n 60 (rGo T n (rSk T n 60 0, 0, 0, rZ)).2.1, (rGo T n (rSk T n 60 0, 0, 0, rZ)).2.2) else (nI (rGo T n (rSk T n 60 0, 0, 0, rZ)).2.1, (rGo T n (rSk T n 60 0, 0, 0, rZ)).2)
/-- what holds of what has been read -/
def rI (s : zRd) : Prop := s.1 ≤ n ∧ s.2.1 ≤ 7 ∧ s.2.2.1 ≤ 6 ∧ s.2.2.1 ≤ s.2.1 ∧ (∀ i, i < s.2.1 → ∃ q, q < 5 ∧ s.2.2.2.1 i = nI q) ∧ ∀ i, i < s.2.2.1 → (∃ q, q < 6 ∧ s.2.2.2.2.1 i = nI q) ∧ ∃ a, a < 10 ∧ s.2.2.2.2.2.1 i = nI a
end READ
section RI
variable {T : zA} {n : Nat}
theorem rSk_le : ∀ {f p : Nat}, p ≤ n → rSk T n f p ≤ n
  | 0, p, h => h
  | f + 1, p, h => by
    rw [rSk]
    split
    · split
      · exact rSk_le (by omega)
      · exact h
    · exact h
theorem rLt_in {g : zA} {v : Int32} : ∀ {k j : Nat}, rLt g v j k = -9 ∨ ∃ i, i < j + k ∧ rLt g v j k = nI i
  | 0, _ => .inl rfl
  | k + 1, j => by
    rw [rLt]
    split
    · exact .inr ⟨j, by omega, rfl⟩
    · rcases rLt_in (g := g) (v := v) (k := k) (j := j + 1) with e | ⟨i, h, e⟩
      · exact .inl e
      · exact .inr ⟨i, by omega, e⟩
theorem rHk_I : ∀ {f : Nat} {s : zRd}, rI n s → rI n (rHk T n f s).2 ∧ (rHk T n f s).2.2.2.1 = s.2.2.1 ∧ (rHk T n f s).2.2.2.2.2 = s.2.2.2.2
  | 0, s, h => ⟨h, rfl, rfl⟩
  | f + 1, s, h => by
    rw [rHk]
    by_cases c1 : s.1 < n
    · rw [if_pos c1]
      by_cases c2 : rLt zPL (T s.1) 0 5 = -9
      · rw [if_pos c2]; exact ⟨h, rfl, rfl⟩
      · rw [if_neg c2]
        by_cases c3 : s.2.1 = 7
        · rw [if_pos c3]; exact ⟨h, rfl, rfl⟩
        · rw [if_neg c3]
          obtain ⟨h1, h2, h3, h4, h5, h6⟩ := h
          refine rHk_I (f := f) (s := (s.1 + 1, s.2.1 + 1, s.2.2.1, upd s.2.2.2.1 s.2.1 (rLt zPL (T s.1) 0 5), s.2.2.2.2)) ⟨by dsimp only; omega, by dsimp only; omega, h3, by dsimp only; omega, fun i hi => ?_, h6⟩
          dsimp only at hi ⊢
          by_cases e : i = s.2.1
          · rw [e, upd_s]
            obtain ⟨q, hq, eq⟩ := rLt_in.resolve_left c2
            exact ⟨q, by omega, eq⟩
          · rw [upd_n e]
            exact h5 i (by omega)
    · rw [if_neg c1]; exact ⟨h, rfl, rfl⟩
theorem fig_eq {lo hi : Nat} (h9 : hi ≤ 9) (hl : lo ≤ hi) (v : Int32) : (v - 48 < nI lo ∨ nI hi < v - 48) ↔ ¬ zbw (nI (48 + lo)) (nI (48 + hi)) v = 1 := by
  constructor
  · intro c q
    unfold zbw at q
    by_cases a : v < nI (48 + lo)
    · rw [if_pos a] at q; exact absurd q (by decide)
    · rw [if_neg a] at q
      by_cases b : nI (48 + hi) < v
      · rw [if_pos b] at q; exact absurd q (by decide)
      · obtain ⟨w, hw, e⟩ := nI_of (x := v) (fun z => a (Int32.lt_of_lt_of_le z (nI_pos' (by omega))))
        subst e
        rw [nI_ltI hw (by omega)] at a
        rw [nI_ltI (by omega) hw] at b
        rw [show (48 : Int32) = nI 48 from rfl, pk_sub (by omega), nI_ltI (by omega) (by omega), nI_ltI (by omega) (by omega)] at c
        omega
  · intro q
    by_cases c : v - 48 < nI lo
    · exact .inl c
    · by_cases d : nI hi < v - 48
      · exact .inr d
      · exfalso
        apply q
        obtain ⟨w, hw, e⟩ := nI_of (x := v - 48) (fun z => c (Int32.lt_of_lt_of_le z (nI_pos' (by omega))))
        rw [e, nI_ltI hw (by omega)] at c
        rw [e, nI_ltI (by omega) hw] at d
        have ev : v = nI (w + 48) := by
          rw [← nI_add, ← e]
          exact (Int32.sub_add_cancel v 48).symm
        rw [ev]
        unfold zbw
        rw [if_neg (nI_nlt (by omega) (by omega)), if_neg (nI_nlt (by omega) (by omega))]
theorem fig_of {lo hi p : Nat} (h9 : hi ≤ 9) (hl : lo ≤ hi) (q : rFg T n lo hi p = true) : p < n ∧ zbw (nI (48 + lo)) (nI (48 + hi)) (T p) = 1 ∧ ∃ a, a < 10 ∧ T p - 48 = nI a := by
  unfold rFg at q
  rw [Bool.and_eq_true, decide_eq_true_eq, decide_eq_true_eq] at q
  refine ⟨q.1, q.2, ?_⟩
  have h := mt (fig_eq h9 hl (T p)).mp (fun z => z q.2)
  rw [not_or] at h
  obtain ⟨w, hw, e⟩ := nI_of (x := T p - 48) (fun z => h.1 (Int32.lt_of_lt_of_le z (nI_pos' (by omega))))
  have h2 := h.2
  rw [e, nI_ltI (by omega) hw] at h2
  exact ⟨w, by omega, e⟩
theorem rMn_I {s : zRd} (h : rI n s) (h1 : s.1 < n) (h2 : s.2.2.1 < 6) (h3 : s.2.2.1 < s.2.1) : rI n (rMn T n s).2 ∧ (rMn T n s).2.2.1 = s.2.1 ∧ ((rMn T n s).1 = true → (rMn T n s).2.2.2.1 = s.2.2.1 + 1) := by
  obtain ⟨i1, i2, i3, i4, i5, i6⟩ := h
  unfold rMn
  by_cases c1 : rLt zKL (T s.1) 0 6 = -9
  · rw [if_pos c1]; exact ⟨⟨i1, i2, i3, i4, i5, i6⟩, rfl, fun q => absurd q (by simp)⟩
  · rw [if_neg c1]
    by_cases c2 : rFg T n 1 9 (s.1 + 1) = true
    · rw [if_pos c2]
      by_cases c3 : rFg T n 0 1 (s.1 + 2) = true
      · rw [if_pos c3]
        by_cases c4 : rFg T n 0 3 (s.1 + 3) = true
        · rw [if_pos c4]
          have f4 := (fig_of (by decide) (by decide) c4).1
          refine ⟨⟨by dsimp only; omega, i2, by dsimp only; omega, by dsimp only; omega, i5, fun i hi => ?_⟩, rfl, fun _ => rfl⟩
          dsimp only at hi ⊢
          by_cases e : i = s.2.2.1
          · rw [e, upd_s, upd_s]
            obtain ⟨q, hq, eq⟩ := rLt_in.resolve_left c1
            exact ⟨⟨q, by omega, eq⟩, (fig_of (by decide) (by decide) c2).2.2⟩
          · rw [upd_n e, upd_n e]
            exact i6 i (by omega)
        · rw [if_neg c4]
          have f3 := (fig_of (by decide) (by decide) c3).1
          exact ⟨⟨by dsimp only; omega, i2, i3, i4, i5, i6⟩, rfl, fun q => absurd q (by simp)⟩
      · rw [if_neg c3]
        have f2 := (fig_of (by decide) (by decide) c2).1
        exact ⟨⟨by dsimp only; omega, i2, i3, i4, i5, i6⟩, rfl, fun q => absurd q (by simp)⟩
    · rw [if_neg c2]
      exact ⟨⟨by dsimp only; omega, i2, i3, i4, i5, i6⟩, rfl, fun q => absurd q (by simp)⟩
theorem rSk_I {s : zRd} (f : Nat) (h : rI n s) : rI n (rSk T n f s.1, s.2) := ⟨rSk_le h.1, h.2⟩
theorem rMs_I : ∀ {f : Nat} {s : zRd}, rI n s → rI n (rMs T n f s).2 ∧ ((rMs T n f s).1 = -9 → n ≤ 60 → 0 < (rMs T n f s).2.2.2.1)
  | 0, s, h => by
    rw [rMs]
    refine ⟨h, fun q hn => ?_⟩
    dsimp only at q ⊢
    have := h.1
    split at q
    · exact absurd q (nI_n9 (by omega))
    · split at q
      · assumption
      · exact absurd q (nI_n9 (by omega))
  | f + 1, s, h => by
    rw [rMs]
    by_cases c1 : s.1 < n
    · rw [if_pos c1]
      by_cases c2 : s.2.2.1 < 6 ∧ s.2.2.1 < s.2.1
      · rw [if_pos c2]
        have i := (rMn_I (T := T) h c1 c2.1 c2.2).1
        by_cases c3 : (rMn T n s).1 = true
        · rw [if_pos c3]
          exact rMs_I (rSk_I 60 i)
        · rw [if_neg c3]
          exact ⟨i, fun q hn => absurd q (nI_n9 (by have := i.1; omega))⟩
      · rw [if_neg c2]
        exact ⟨h, fun q hn => absurd q (nI_n9 (by omega))⟩
    · rw [if_neg c1]
      refine ⟨h, fun q hn => ?_⟩
      dsimp only at q ⊢
      have := h.1
      split at q
      · assumption
      · exact absurd q (nI_n9 (by omega))
/-- the men leave the hooks as they are -/
theorem rMn_h {s : zRd} : (rMn T n s).2.2.1 = s.2.1 ∧ (rMn T n s).2.2.2.2.1 = s.2.2.2.1 := by
  unfold rMn
  repeat' split
  all_goals exact ⟨rfl, rfl⟩
theorem rMs_h : ∀ {f : Nat} {s : zRd}, (rMs T n f s).2.2.1 = s.2.1 ∧ (rMs T n f s).2.2.2.2.1 = s.2.2.2.1
  | 0, s => ⟨rfl, rfl⟩
  | f + 1, s => by
    rw [rMs]
    have h := rMn_h (T := T) (n := n) (s := s)
    split
    · split
      · split
        · have := rMs_h (f := f) (s := (rSk T n 60 (rMn T n s).2.1, (rMn T n s).2.2))
          exact ⟨this.1.trans h.1, this.2.trans h.2⟩
        · exact h
      · exact ⟨rfl, rfl⟩
    · exact ⟨rfl, rfl⟩
theorem rGo_I {s : zRd} (h : rI n s) : rI n (rGo T n s).2 ∧ (rGo T n s).2.2.2.1 = s.2.2.1 ∧ (rGo T n s).2.2.2.2.2 = s.2.2.2.2 := by
  unfold rGo
  by_cases c : s.1 < n ∧ T s.1 = 107
  · rw [if_pos c]
    exact rHk_I (s := (s.1 + 1, s.2)) ⟨by dsimp only; omega, h.2⟩
  · rw [if_neg c]
    exact ⟨h, rfl, rfl⟩
theorem rZ_I {p : Nat} (h : p ≤ n) : rI n (p, 0, 0, rZ) := ⟨h, Nat.zero_le 7, Nat.zero_le 6, Nat.le_refl 0, fun i hi => absurd hi (Nat.not_lt_zero _), fun i hi => absurd hi (Nat.not_lt_zero _)⟩
theorem rAll_I (hn : n ≤ 60) : rI n (rAll T n).2 ∧ ((rAll T n).1 = -9 → 0 < (rAll T n).2.2.2.1) := by
  have i := (rGo_I (T := T) (rZ_I (n := n) (rSk_le (T := T) (f := 60) (Nat.zero_le n)))).1
  unfold rAll
  by_cases c : (rGo T n (rSk T n 60 0, 0, 0, rZ)).1 = true
  · rw [if_pos c]
    have := rMs_I (T := T) (f := 6) (rSk_I (T := T) 60 i)
    exact ⟨this.1, fun q => this.2 q hn⟩
  · rw [if_neg c]
    exact ⟨i, fun q => absurd q (nI_n9 (by have := i.1; omega))⟩
end RI
/-! THE CLASS'S READER runs -/
/-- a reader at x that reads a text at b for a crew at y -/
def zRx (r : zE) (x y b n : Nat) (T : zA) (F : zRd → zH) : Prop :=
  (∀ s, zob r (F s) x 3 = true) ∧ (∀ s, zob r (F s) y 1 = true) ∧ (∀ s, zob r (F s) b 4 = true) ∧
  (∀ s, zgR r (F s) x 3 0 = some b) ∧ (∀ s, zgR r (F s) x 3 1 = some y) ∧ (∀ s : zRd, zgI r (F s) x 3 2 = some (nI s.1)) ∧
  (∀ (s : zRd) v, zpF r (F s) x 3 2 (.int (nI v)) = some (F (v, s.2))) ∧
  (∀ s : zRd, zgI r (F s) y 1 0 = some (nI s.2.1)) ∧ (∀ s : zRd, zgI r (F s) y 1 1 = some (nI s.2.2.1)) ∧
  (∀ (s : zRd) v, zpF r (F s) y 1 0 (.int (nI v)) = some (F (s.1, v, s.2.2))) ∧ (∀ (s : zRd) v, zpF r (F s) y 1 1 (.int (nI v)) = some (F (s.1, s.2.1, v, s.2.2.2))) ∧
  (∀ s, zgR r (F s) y 1 2 = some (y + 1)) ∧ (∀ s, zgR r (F s) y 1 3 = some (y + 2)) ∧ (∀ s, zgR r (F s) y 1 4 = some (y + 3)) ∧ (∀ s, zgR r (F s) y 1 5 = some (y + 4)) ∧ (∀ s, zgR r (F s) y 1 6 = some (y + 5)) ∧
  (∀ (s : zRd) j v, j < 7 → zsI r (F s) (y + 1) (nI j) v = some (F (s.1, s.2.1, s.2.2.1, upd s.2.2.2.1 j v, s.2.2.2.2))) ∧
  (∀ (s : zRd) j v, j < 6 → zsI r (F s) (y + 2) (nI j) v = some (F (s.1, s.2.1, s.2.2.1, s.2.2.2.1, upd s.2.2.2.2.1 j v, s.2.2.2.2.2))) ∧
  (∀ (s : zRd) j v, j < 6 → zsI r (F s) (y + 3) (nI j) v = some (F (s.1, s.2.1, s.2.2.1, s.2.2.2.1, s.2.2.2.2.1, upd s.2.2.2.2.2.1 j v, s.2.2.2.2.2.2))) ∧
  (∀ (s : zRd) j v, j < 6 → zsI r (F s) (y + 4) (nI j) v = some (F (s.1, s.2.1, s.2.2.1, s.2.2.2.1, s.2.2.2.2.1, s.2.2.2.2.2.1, upd s.2.2.2.2.2.2.1 j v, s.2.2.2.2.2.2.2))) ∧
  (∀ (s : zRd) j v, j < 6 → zsI r (F s) (y + 5) (nI j) v = some (F (s.1, s.2.1, s.2.2.1, s.2.2.2.1, s.2.2.2.2.1, s.2.2.2.2.2.1, s.2.2.2.2.2.2.1, upd s.2.2.2.2.2.2.2 j v))) ∧
  (∀ s i, zev r i_X4_has 0 [some (.ref b), some (.int i)] [] (F s) = some (some (.int (zhk n i)), F s)) ∧
  (∀ s i, zev r i_X4_get 0 [some (.ref b), some (.int i)] [] (F s) = some (some (.int (if zhk n i = 0 then 0 else T i.toNatClampNeg)), F s)) ∧
  (∀ s, zgI r (F s) b 4 1 = some (nI n))
section RD
variable {r : zE} {x y b n : Nat} {T : zA} {F : zRd → zH}
theorem rd_skip (R : zRx r x y b n T F) (hn : n ≤ 60) : ∀ (f : Nat) (s : zRd), s.1 ≤ n → n - s.1 ≤ f → zev r i_X3_skipBlanks 0 [some (.ref x)] [] (F s) = some (none, F (rSk T n f s.1, s.2))
  | 0, s, h1, h2 => by
    obtain ⟨o3, o1, o4, gt, gc, gp, pp, -, -, -, -, -, -, -, -, -, -, -, -, -, -, hs, gg, gn⟩ := id R
    refine (E_X3_skipBlanks_0 ..).trans ?_
    simp only [gp, gt, gn, Option.bind_some, if_neg (nI_nlt (show n ≤ s.1 by omega) (show s.1 < 2 ^ 31 by omega)), rSk]
  | f + 1, s, h1, h2 => by
    obtain ⟨o3, o1, o4, gt, gc, gp, pp, -, -, -, -, -, -, -, -, -, -, -, -, -, -, hs, gg, gn⟩ := id R
    refine (E_X3_skipBlanks_0 ..).trans ?_
    by_cases c : s.1 < n
    · simp only [gp, gt, gn, o4, Option.bind_some, if_pos (nI_lt c (show n < 2 ^ 31 by omega)), if_true, gg, zhk_in c (show n < 2 ^ 31 by omega), i01, if_false, zcI_some, nI_clamp (show s.1 < 2 ^ 31 by omega), nI_1, pp]
      rw [rSk, if_pos c]
      by_cases d : T s.1 = 32
      · rw [if_pos d, if_pos d]
        exact rd_skip R hn f (s.1 + 1, s.2) c (by dsimp only; omega)
      · rw [if_neg d, if_neg d]
    · simp only [gp, gt, gn, Option.bind_some, if_neg (nI_nlt (show n ≤ s.1 by omega) (show s.1 < 2 ^ 31 by omega)), rSk, c, if_false]
theorem rd_let2 (R : zRx r x y b n T F) (hn : n ≤ 60) {a N : Nat} {g : zA} (ha : ¬ r.1 ≤ a) (hN : r.2.1 a = some (true, N, g)) (N31 : N < 2 ^ 31) {s : zRd} (h1 : s.1 ≤ n) : ∀ k j, j + k = N → zev r i_X3_letterIn 2 [some (.ref x), some (.ref a), some (.int (nI j))] [] (F s) = some (some (.int (if s.1 < n then rLt g (T s.1) j k else -9)), F s)
  | 0, j, e => by
    refine (E_X3_letterIn_2 ..).trans ?_
    rw [show j = N by omega]
    simp only [zaN_old ha hN, nI_of0, Option.bind_some, if_neg (nI_nlt (Nat.le_refl N) N31), rLt, ite_self]
  | k + 1, j, e => by
    obtain ⟨o3, o1, o4, gt, gc, gp, pp, -, -, -, -, -, -, -, -, -, -, -, -, -, -, hs, gg, gn⟩ := id R
    have ih := rd_let2 R hn ha hN N31 h1 k (j + 1) (by omega)
    refine (E_X3_letterIn_2 ..).trans ?_
    by_cases c : s.1 < n
    · simp only [zaN_old ha hN, zaC_old ha hN (show j < N by omega) N31, nI_of0, Option.bind_some, if_pos (nI_lt (show j < N by omega) N31), gt, gp, o4, if_true, hs, gg, zhk_in c (show n < 2 ^ 31 by omega), i01, if_false, zcI_some, nI_clamp (show s.1 < 2 ^ 31 by omega), nI_1, ih, rLt]
      simp only [c, if_true]
      split <;> rfl
    · simp only [zaN_old ha hN, nI_of0, Option.bind_some, if_pos (nI_lt (show j < N by omega) N31), gt, gp, o4, if_true, hs, zhk_out (show n ≤ s.1 by omega) (show s.1 < 2 ^ 31 by omega), zcI_some, nI_1, ih, c, if_false]
theorem rd_let (R : zRx r x y b n T F) (hn : n ≤ 60) {a N : Nat} {g : zA} (ha : ¬ r.1 ≤ a) (hN : r.2.1 a = some (true, N, g)) (N31 : N < 2 ^ 31) {s : zRd} (c : s.1 < n) : zev r i_X3_letterIn 0 [some (.ref x), some (.ref a), none] [] (F s) = some (some (.int (rLt g (T s.1) 0 N)), F s) := by
  have := rd_let2 R hn ha hN N31 (s := s) (by omega) N 0 (by omega)
  rw [if_pos c] at this
  rw [E_X3_letterIn_0]
  exact this
theorem rd_fig (R : zRx r x y b n T F) (hn : n ≤ 60) {lo hi : Nat} (h9 : hi ≤ 9) (hl : lo ≤ hi) {s : zRd} (h1 : s.1 ≤ n) : zev r i_X3_readFigure 0 [some (.ref x), some (.int (nI lo)), some (.int (nI hi)), none] [] (F s) = if rFg T n lo hi s.1 = true then some (some (.int (T s.1 - 48)), F (s.1 + 1, s.2)) else some (some (.int (-9)), F s) := by
  obtain ⟨o3, o1, o4, gt, gc, gp, pp, -, -, -, -, -, -, -, -, -, -, -, -, -, -, hs, gg, gn⟩ := id R
  rw [E_X3_readFigure_0]
  by_cases c : s.1 < n
  · simp only [gt, gp, o4, Option.bind_some, if_true, hs, gg, zhk_in c (show n < 2 ^ 31 by omega), i01, if_false, zcI_some, nI_clamp (show s.1 < 2 ^ 31 by omega), E_X3_readFigure_33, nI_1, pp]
    have := fig_eq h9 hl (T s.1)
    by_cases q : zbw (nI (48 + lo)) (nI (48 + hi)) (T s.1) = 1
    · rw [if_pos (show rFg T n lo hi s.1 = true by simp [rFg, c, q])]
      have h := mt this.mp (fun z => z q)
      rw [not_or] at h
      rw [if_neg h.1, if_neg h.2]
    · rw [if_neg (show ¬ rFg T n lo hi s.1 = true by simp [rFg, q])]
      rcases this.mpr q with z | z
      · rw [if_pos z]
      · rw [if_pos z, ite_self]
  · rw [if_neg (show ¬ rFg T n lo hi s.1 = true by simp [rFg, c])]
    simp only [gt, gp, o4, Option.bind_some, if_true, hs, zhk_out (show n ≤ s.1 by omega) (show s.1 < 2 ^ 31 by omega), zcI_some, E_X3_readFigure_33]
    rw [if_pos (show (-9 : Int32) < nI lo from Int32.lt_of_lt_of_le (by decide) (nI_pos' (by omega)))]
theorem rd_hooks42 (R : zRx r x y b n T F) (E : zEk r) (hn : n ≤ 60) : ∀ (f : Nat) (s : zRd), rI n s → n - s.1 < f → zev r i_X3_readHooks 42 [some (.ref x), none] [] (F s) = some (some (.int (if (rHk T n f s).1 = true then 1 else 0)), F (rHk T n f s).2)
  | 0, s, h1, h2 => by omega
  | f + 1, s, h1, h2 => by
    obtain ⟨o3, o1, o4, gt, gc, gp, pp, gh, gm, ph, pm, g2, g3, g4, g5, g6, w1, w2, w3, w4, w5, hs, gg, gn⟩ := id R
    have hh := h1.2.1
    have hp := h1.1
    have fin : (if nI s.2.1 < 2 then some (some (.int 0), F s) else some (some (.int 1), F s) : Option zRes) = some (some (.int (if (!decide (s.2.1 < 2)) = true then 1 else 0)), F s) := by
      by_cases d : s.2.1 < 2
      · rw [if_pos (show nI s.2.1 < 2 from nI_lt (b := 2) d (by decide))]
        simp [d]
      · rw [if_neg (show ¬ nI s.2.1 < 2 from nI_nlt (b := 2) (by omega) (by omega))]
        simp [d]
    refine (E_X3_readHooks_42 ..).trans ?_
    by_cases c : s.1 < n
    · have el := rd_let R hn (E.1 2 (by decide)) E.2.2.2.1 (by decide) (s := s) c
      rw [rHk, if_pos c]
      simp only [gp, gt, gn, gc, gh, Option.bind_some, if_pos (nI_lt c (show n < 2 ^ 31 by omega)), o3, if_true, el, zcI_some]
      by_cases c2 : rLt zPL (T s.1) 0 5 = -9
      · rw [if_pos c2, if_pos c2]
        exact fin
      · rw [if_neg c2, if_neg c2]
        by_cases c3 : s.2.1 = 7
        · rw [if_pos c3, if_pos (show nI s.2.1 = 7 by rw [c3]; rfl)]
          rfl
        · rw [if_neg c3, if_neg (show ¬ nI s.2.1 = 7 from fun z => c3 ((nI_eq (b := 7) (by omega) (by decide)).mp z))]
          have h7 : s.2.1 < 7 := by omega
          simp only [o1, if_true, E_X1_addHook_0, gh, Option.bind_some, if_pos (show nI s.2.1 < 7 from nI_lt (b := 7) h7 (by decide)), g2, w1 _ _ _ h7, ph, pp, gp, zcV_some, nI_1]
          have := (rHk_I (T := T) (f := 1) h1).1
          rw [rHk, if_pos c, if_neg c2, if_neg c3, rHk] at this
          exact rd_hooks42 R E hn f _ this (by dsimp only; omega)
    · rw [rHk, if_neg c]
      simp only [gp, gt, gn, gc, gh, Option.bind_some, if_neg (nI_nlt (show n ≤ s.1 by omega) (show s.1 < 2 ^ 31 by omega))]
      exact fin
theorem rd_hooks (R : zRx r x y b n T F) (E : zEk r) (hn : n ≤ 60) {s : zRd} (h1 : rI n s) : zev r i_X3_readHooks 0 [some (.ref x), none] [] (F s) = some (some (.int (if (rGo T n s).1 = true then 1 else 0)), F (rGo T n s).2) := by
  obtain ⟨o3, o1, o4, gt, gc, gp, pp, gh, gm, ph, pm, g2, g3, g4, g5, g6, w1, w2, w3, w4, w5, hs, gg, gn⟩ := id R
  have hp := h1.1
  refine (E_X3_readHooks_0 ..).trans ?_
  unfold rGo
  by_cases c : s.1 < n
  · simp only [gp, gt, o4, Option.bind_some, if_true, hs, gg, zhk_in c (show n < 2 ^ 31 by omega), i01, if_false, zcI_some, nI_clamp (show s.1 < 2 ^ 31 by omega), pp, nI_1, c, true_and]
    by_cases d : T s.1 = 107
    · rw [if_pos d, if_pos d]
      exact rd_hooks42 R E hn 61 (s.1 + 1, s.2) ⟨c, h1.2⟩ (by dsimp only; omega)
    · rw [if_neg d, if_neg d]
      rfl
  · simp only [gp, gt, o4, Option.bind_some, if_true, hs, zhk_out (show n ≤ s.1 by omega) (show s.1 < 2 ^ 31 by omega), zcI_some, c, false_and, if_false]
    rfl
theorem most_lt {m h : Nat} (h7 : h ≤ 7) (h6 : m ≤ 6) : nI m < (if nI h < 6 then nI h else 6) ↔ m < 6 ∧ m < h := by
  by_cases c : h < 6
  · rw [if_pos (show nI h < 6 from nI_lt (b := 6) c (by decide)), nI_ltI (by omega) (by omega)]
    omega
  · rw [if_neg (show ¬ nI h < 6 from nI_nlt (b := 6) (by omega) (by omega)), show (6 : Int32) = nI 6 from rfl, nI_ltI (by omega) (by omega)]
    omega
theorem rd_man (R : zRx r x y b n T F) (E : zEk r) (hn : n ≤ 60) {s : zRd} (h1 : rI n s) (c : s.1 < n) (m6 : s.2.2.1 < 6) (mh : s.2.2.1 < s.2.1) : zev r i_X3_readMan 0 [some (.ref x), none, none, none, none] [] (F s) = some (some (.int (if (rMn T n s).1 = true then 1 else 0)), F (rMn T n s).2) := by
  obtain ⟨o3, o1, o4, gt, gc, gp, pp, gh, gm, ph, pm, g2, g3, g4, g5, g6, w1, w2, w3, w4, w5, hs, gg, gn⟩ := id R
  have hh := h1.2.1
  have el := rd_let R hn (E.1 1 (by decide)) E.2.2.1 (by decide) (s := s) c
  refine (E_X3_readMan_0 ..).trans ?_
  unfold rMn
  simp only [o3, if_true, el, zcI_some]
  by_cases c1 : rLt zKL (T s.1) 0 6 = -9
  · rw [if_pos c1, if_pos c1]
    rfl
  · rw [if_neg c1, if_neg c1]
    have f1 := rd_fig R hn (lo := 1) (hi := 9) (by decide) (by decide) (s := (s.1 + 1, s.2)) c
    rw [show nI 1 = (1 : Int32) from rfl, show nI 9 = (9 : Int32) from rfl] at f1
    dsimp only at f1
    simp only [gp, pp, Option.bind_some, nI_1, o3, if_true]
    rw [f1]
    by_cases c2 : rFg T n 1 9 (s.1 + 1) = true
    · obtain ⟨p2, -, a2, ha2, e2⟩ := fig_of (by decide) (by decide) c2
      rw [if_pos c2, if_pos c2, zcI_some, if_neg (by rw [e2]; exact nI_n9 (by omega))]
      have f2 := rd_fig R hn (lo := 0) (hi := 1) (by decide) (by decide) (s := (s.1 + 2, s.2)) p2
      rw [show nI 0 = (0 : Int32) from rfl, show nI 1 = (1 : Int32) from rfl] at f2
      dsimp only at f2
      simp only [o3, if_true]
      rw [f2]
      by_cases c3 : rFg T n 0 1 (s.1 + 2) = true
      · obtain ⟨p3, -, a3, ha3, e3⟩ := fig_of (by decide) (by decide) c3
        rw [if_pos c3, if_pos c3, zcI_some, if_neg (by rw [e3]; exact nI_n9 (by omega))]
        have f3 := rd_fig R hn (lo := 0) (hi := 3) (by decide) (by decide) (s := (s.1 + 3, s.2)) p3
        rw [show nI 0 = (0 : Int32) from rfl, show nI 3 = (3 : Int32) from rfl] at f3
        dsimp only at f3
        simp only [o3, if_true]
        rw [f3]
        by_cases c4 : rFg T n 0 3 (s.1 + 3) = true
        · obtain ⟨p4, -, a4, ha4, e4⟩ := fig_of (by decide) (by decide) c4
          rw [if_pos c4, if_pos c4, zcI_some, if_neg (by rw [e4]; exact nI_n9 (by omega))]
          simp only [gc, o1, Option.bind_some, if_true, E_X1_addMan_0, E_X1_mostMen_0, gh, gm, zcI_some, if_pos ((most_lt hh h1.2.2.1).mpr ⟨m6, mh⟩), g3, g4, g5, g6, w2 _ _ _ m6, w3 _ _ _ m6, w4 _ _ _ m6, w5 _ _ _ m6, pm, zcV_some, nI_1]
        · rw [if_neg c4, if_neg c4, zcI_some, if_pos rfl]
          rfl
      · rw [if_neg c3, if_neg c3, zcI_some, if_pos rfl]
        rfl
    · rw [if_neg c2, if_neg c2, zcI_some, if_pos rfl]
      rfl
theorem rd_71 (R : zRx r x y b n T F) (hn : n ≤ 60) {s : zRd} (h1 : rI n s) (a d : Int32) : zev r i_X3_read 71 [some (.ref x), some (.int a), some (.int d)] [] (F s) = some (some (.int (if s.1 < n then nI s.1 else if 0 < s.2.2.1 then -9 else nI s.1)), F s) := by
  obtain ⟨o3, o1, o4, gt, gc, gp, pp, gh, gm, ph, pm, g2, g3, g4, g5, g6, w1, w2, w3, w4, w5, hs, gg, gn⟩ := id R
  have hp := h1.1
  have hm := h1.2.2.1
  refine (E_X3_read_71 ..).trans ?_
  simp only [gc, gm, gp, gt, gn, Option.bind_some]
  by_cases c : s.1 < n
  · rw [if_pos c, if_neg (show ¬ nI s.1 = nI n from fun z => by have := (nI_eq (by omega) (by omega)).mp z; omega), ite_self]
  · rw [if_neg c, if_pos (show nI s.1 = nI n by rw [show s.1 = n by omega])]
    by_cases d : 0 < s.2.2.1
    · rw [if_pos d, if_pos (show 0 < nI s.2.2.1 from nI_lt (a := 0) d (by omega))]
    · rw [if_neg d, if_neg (show ¬ 0 < nI s.2.2.1 from nI_nlt (a := 0) (by omega) (by omega))]
theorem rd_30 (R : zRx r x y b n T F) (E : zEk r) (hn : n ≤ 60) : ∀ (f : Nat) (s : zRd), rI n s → f + s.2.2.1 = 6 → zev r i_X3_read 30 [some (.ref x), some (.int (if nI s.2.1 < 6 then nI s.2.1 else 6)), some (.int (nI s.2.2.1))] [] (F s) = some (some (.int (rMs T n f s).1), F (rMs T n f s).2)
  | 0, s, h1, h2 => by
    refine (E_X3_read_30 ..).trans ?_
    rw [if_neg (fun z => by have := (most_lt h1.2.1 h1.2.2.1).mp z; omega), rMs]
    exact rd_71 R hn h1 _ _
  | f + 1, s, h1, h2 => by
    obtain ⟨o3, o1, o4, gt, gc, gp, pp, gh, gm, ph, pm, g2, g3, g4, g5, g6, w1, w2, w3, w4, w5, hs, gg, gn⟩ := id R
    have hp := h1.1
    refine (E_X3_read_30 ..).trans ?_
    rw [rMs]
    by_cases c2 : s.2.2.1 < 6 ∧ s.2.2.1 < s.2.1
    · rw [if_pos ((most_lt h1.2.1 h1.2.2.1).mpr c2)]
      simp only [gp, gt, gn, Option.bind_some]
      by_cases c : s.1 < n
      · rw [if_pos c, if_pos (nI_lt c (show n < 2 ^ 31 by omega)), if_pos c2]
        simp only [o3, if_true, rd_man R E hn h1 c c2.1 c2.2, zcI_some]
        obtain ⟨i1, i2, i3⟩ := rMn_I (T := T) h1 c c2.1 c2.2
        by_cases c3 : (rMn T n s).1 = true
        · rw [if_pos c3, if_pos c3, if_neg i01, rd_skip R hn 60 _ i1.1 (by omega), zcV_some, nI_1]
          have := rd_30 R E hn f (rSk T n 60 (rMn T n s).2.1, (rMn T n s).2.2) (rSk_I 60 i1) (by dsimp only; rw [i3 c3]; omega)
          dsimp only at this
          rw [i2, i3 c3] at this
          exact this
        · rw [if_neg c3, if_neg c3, if_pos rfl]
          simp only [gp, Option.bind_some]
      · rw [if_neg c, if_neg (nI_nlt (show n ≤ s.1 by omega) (show s.1 < 2 ^ 31 by omega))]
        refine (rd_71 R hn h1 _ _).trans ?_
        rw [if_neg c]
    · rw [if_neg (fun z => c2 ((most_lt h1.2.1 h1.2.2.1).mp z))]
      refine (rd_71 R hn h1 _ _).trans ?_
      by_cases c : s.1 < n
      · rw [if_pos c, if_pos c, if_neg c2]
      · rw [if_neg c, if_neg c]
theorem rd_read (R : zRx r x y b n T F) (E : zEk r) (hn : n ≤ 60) : zev r i_X3_read 0 [some (.ref x), none, none] [] (F (0, 0, 0, rZ)) = some (some (.int (rAll T n).1), F (rAll T n).2) := by
  obtain ⟨o3, o1, o4, gt, gc, gp, pp, gh, gm, ph, pm, g2, g3, g4, g5, g6, w1, w2, w3, w4, w5, hs, gg, gn⟩ := id R
  have i0 := rZ_I (n := n) (rSk_le (T := T) (f := 60) (Nat.zero_le n))
  obtain ⟨i1, i2, i3⟩ := rGo_I (T := T) i0
  dsimp only at i2
  refine (E_X3_read_0 ..).trans ?_
  simp only [o3, if_true, rd_skip R hn 60 (0, 0, 0, rZ) (Nat.zero_le n) (by dsimp only; omega), zcV_some, rd_hooks R E hn i0, zcI_some, gp, Option.bind_some]
  unfold rAll
  by_cases c : (rGo T n (rSk T n 60 0, 0, 0, rZ)).1 = true
  · rw [if_pos c, if_pos c, if_neg i01]
    simp only [rd_skip R hn 60 _ i1.1 (show n - (rGo T n (rSk T n 60 0, 0, 0, rZ)).2.1 ≤ 60 by omega), zcV_some, gc, o1, if_true, Option.bind_some, E_X1_mostMen_0, gh, zcI_some]
    have := rd_30 R E hn 6 (rSk T n 60 (rGo T n (rSk T n 60 0, 0, 0, rZ)).2.1, (rGo T n (rSk T n 60 0, 0, 0, rZ)).2.2) (rSk_I 60 i1) (by dsimp only; rw [i2])
    dsimp only at this
    rw [i2] at this
    exact this
  · rw [if_neg c, if_neg c, if_pos rfl]
end RD
