/-! THE REFERENCE reads -/
section MRD
variable {r : zE} {c0 c1 c2 : Nat} {I : Nat → Int32} {J : Nat → Int64} {Q : Nat → Nat → Int32} {N A : zBr} {U : Nat → Int32} {V : Nat → Int64} {X : Nat → Nat → Int32} {S : zSs} {t : zH} {T : zA} {j e : Nat}
def zUr (U : zA) (j e p h m : Nat) : zA := fun i => if i = 4 then nI (60 * j) else if i = 5 then nI p else if i = 6 then nI e else if i = 7 then nI h else if i = 8 then nI m else U i
def zXr (X : Nat → zA) (Y Z : zA) : Nat → zA := fun i => if i = 10 then Y else if i = 11 then Z else X i
theorem ur_5 {U : zA} {j e p h m v : Nat} : va_up (zUr U j e p h m) 5 (nI v) = zUr U j e v h m := by
  funext i
  by_cases c : i = 5
  · subst c; rfl
  · rw [va_ne c]
    unfold zUr
    simp only [c, if_false]
theorem ur_7 {U : zA} {j e p h m v : Nat} : va_up (zUr U j e p h m) 7 (nI v) = zUr U j e p v m := by
  funext i
  by_cases c : i = 7
  · subst c; rfl
  · rw [va_ne c]
    unfold zUr
    simp only [c, if_false]
theorem ur_8 {U : zA} {j e p h m v : Nat} : va_up (zUr U j e p h m) 8 (nI v) = zUr U j e p h v := by
  funext i
  by_cases c : i = 8
  · subst c; rfl
  · rw [va_ne c]
    unfold zUr
    simp only [c, if_false]
theorem ur_0 {U : zA} {j e : Nat} : va_up (va_up (va_up (va_up (va_up U 4 (nI (60 * j))) 5 (nI 0)) 6 (nI e)) 7 (nI 0)) 8 (nI 0) = zUr U j e 0 0 0 := by
  funext i
  unfold zUr
  by_cases c8 : i = 8
  · subst c8; rfl
  · rw [va_ne c8]
    by_cases c7 : i = 7
    · subst c7; rfl
    · rw [va_ne c7]
      by_cases c6 : i = 6
      · subst c6; rfl
      · rw [va_ne c6]
        by_cases c5 : i = 5
        · subst c5; rfl
        · rw [va_ne c5]
          by_cases c4 : i = 4
          · subst c4; rfl
          · rw [va_ne c4]
            simp only [c4, c5, c6, c7, c8, if_false]
theorem xr_0 {X : Nat → zA} : zXr X (X 10) (X 11) = X := by
  funext i
  unfold zXr
  split
  · rename_i h; rw [h]
  · split
    · rename_i h; rw [h]
    · rfl
theorem xr_10 {X : Nat → zA} {Y Z V : zA} : va_up (zXr X Y Z) 10 V = zXr X V Z := by
  funext i
  by_cases c : i = 10
  · subst c; rfl
  · rw [va_ne c]
    unfold zXr
    simp only [c, if_false]
theorem xr_11 {X : Nat → zA} {Y Z V : zA} : va_up (zXr X Y Z) 11 V = zXr X Y V := by
  funext i
  by_cases c : i = 11
  · subst c; rfl
  · rw [va_ne c]
    unfold zXr
    simp only [c, if_false]
section UR
variable {p h m : Nat} {Y Z : zA}
theorem ur4 : zUr U j e p h m 4 = nI (60 * j) := rfl
theorem ur5 : zUr U j e p h m 5 = nI p := rfl
theorem ur6 : zUr U j e p h m 6 = nI e := rfl
theorem ur7 : zUr U j e p h m 7 = nI h := rfl
theorem ur8 : zUr U j e p h m 8 = nI m := rfl
theorem xr8 : zXr X Y Z 8 = X 8 := rfl
theorem xr10 : zXr X Y Z 10 = Y := rfl
theorem xr11 : zXr X Y Z 11 = Z := rfl
theorem m_here (hj : j < 4) (hT : ∀ i, i < e → X 8 (60 * j + i) = T i) (he : e ≤ 60) (hp : p < e) : zev r i_X6_here 0 [some (.ref (r.1 + 49))] [] (zmk r c0 c1 c2 I J Q N A (zUr U j e p h m) V (zXr X Y Z) S t) = some (some (.int (T p)), (zmk r c0 c1 c2 I J Q N A (zUr U j e p h m) V (zXr X Y Z) S t)) := by
  simp only [E_X6_here_0, mo_49, mg_49_0, mg_49_1, mg_49_2, mg_49_3, mg_49_4, mg_49_5, mg_49_6, mg_49_7, mg_49_8, mg_49_9, mg_49_10, mg_49_11, mg_49_12, mg_49_13, mg_49_14, mg_49_15, mg_49_16, mg_49_17, mg_49_18, mg_49_19, mg_49_20, mg_49_21, mg_49_22, mg_49_23, mg_49_24, mg_49_25, Option.bind_some, ur4, ur5, nI_add, ma_58 (show 60 * j + p < 240 by omega), xr8, hT p hp]
theorem m_pol (r : zE) (g : zH) (v : Int32) : zev r i_X6_placeOfLetter 0 [some (.int v)] [] g = some (some (.int (rLt zPL v 0 5)), g) := by
  rw [E_X6_placeOfLetter_0]
  have e : rLt zPL v 0 5 = if v = 46 then 0 else if v = 100 then 1 else if v = 108 then 2 else if v = 117 then 3 else if v = 103 then 4 else -9 := rfl
  rw [e]
  repeat' split
  all_goals rfl
theorem m_kol (r : zE) (g : zH) (v : Int32) : zev r i_X6_kindOfLetter 0 [some (.int v)] [] g = some (some (.int (rLt zKL v 0 6)), g) := by
  rw [E_X6_kindOfLetter_0]
  have e : rLt zKL v 0 6 = if v = 109 then 0 else if v = 116 then 1 else if v = 115 then 2 else if v = 102 then 3 else if v = 110 then 4 else if v = 105 then 5 else -9 := rfl
  rw [e]
  repeat' split
  all_goals rfl
end UR
theorem m_skip (hj : j < 4) (hT : ∀ i, i < e → X 8 (60 * j + i) = T i) (he : e ≤ 60) (h m : Nat) (Y Z : zA) : ∀ f p, p ≤ e → e - p ≤ f → zev r i_X6_skip 0 [some (.ref (r.1 + 49))] [] (zmk r c0 c1 c2 I J Q N A (zUr U j e p h m) V (zXr X Y Z) S t) = some (none, (zmk r c0 c1 c2 I J Q N A (zUr U j e (rSk T e f p) h m) V (zXr X Y Z) S t))
  | 0, p, h1, h2 => by
    refine (E_X6_skip_0 ..).trans ?_
    simp only [mo_49, mg_49_0, mg_49_1, mg_49_2, mg_49_3, mg_49_4, mg_49_5, mg_49_6, mg_49_7, mg_49_8, mg_49_9, mg_49_10, mg_49_11, mg_49_12, mg_49_13, mg_49_14, mg_49_15, mg_49_16, mg_49_17, mg_49_18, mg_49_19, mg_49_20, mg_49_21, mg_49_22, mg_49_23, mg_49_24, mg_49_25, Option.bind_some, ur5, ur6, if_neg (nI_nlt (show e ≤ p by omega) (show p < 2 ^ 31 by omega)), rSk]
  | f + 1, p, h1, h2 => by
    refine (E_X6_skip_0 ..).trans ?_
    by_cases c : p < e
    · simp only [mo_49, mg_49_0, mg_49_1, mg_49_2, mg_49_3, mg_49_4, mg_49_5, mg_49_6, mg_49_7, mg_49_8, mg_49_9, mg_49_10, mg_49_11, mg_49_12, mg_49_13, mg_49_14, mg_49_15, mg_49_16, mg_49_17, mg_49_18, mg_49_19, mg_49_20, mg_49_21, mg_49_22, mg_49_23, mg_49_24, mg_49_25, Option.bind_some, ur5, ur6, if_pos (nI_lt c (show e < 2 ^ 31 by omega)), if_true, m_here hj hT he c, zcI_some, mp_49_17, nI_1, ur_5]
      rw [rSk, if_pos c]
      by_cases d : T p = 32
      · rw [if_pos d, if_pos d]
        exact m_skip hj hT he h m Y Z f (p + 1) c (by omega)
      · rw [if_neg d, if_neg d]
    · simp only [mo_49, mg_49_0, mg_49_1, mg_49_2, mg_49_3, mg_49_4, mg_49_5, mg_49_6, mg_49_7, mg_49_8, mg_49_9, mg_49_10, mg_49_11, mg_49_12, mg_49_13, mg_49_14, mg_49_15, mg_49_16, mg_49_17, mg_49_18, mg_49_19, mg_49_20, mg_49_21, mg_49_22, mg_49_23, mg_49_24, mg_49_25, Option.bind_some, ur5, ur6, if_neg (nI_nlt (show e ≤ p by omega) (show p < 2 ^ 31 by omega)), rSk, c, if_false]
theorem m_hooks36 (hj : j < 4) (hT : ∀ i, i < e → X 8 (60 * j + i) = T i) (he : e ≤ 60) (Z : zA) : ∀ (f : Nat) (s : zRd) (Y : zA), rI e s → e - s.1 < f → (∀ i, i < s.2.1 → Y i = s.2.2.2.1 i) → ∃ Y', (∀ c0 c1 c2 I J Q N A V S t, zev r i_X6_readsHooks 36 [some (.ref (r.1 + 49))] [] (zmk r c0 c1 c2 I J Q N A (zUr U j e s.1 s.2.1 s.2.2.1) V (zXr X Y Z) S t) = some (some (.int (if (rHk T e f s).1 = true then 1 else 0)), (zmk r c0 c1 c2 I J Q N A (zUr U j e (rHk T e f s).2.1 (rHk T e f s).2.2.1 (rHk T e f s).2.2.2.1) V (zXr X Y' Z) S t))) ∧ ∀ i, i < (rHk T e f s).2.2.1 → Y' i = (rHk T e f s).2.2.2.2.1 i
  | 0, s, Y, h1, h2, hy => by omega
  | f + 1, s, Y, h1, h2, hy => by
    have hh := h1.2.1
    have hp := h1.1
    have fin : ∀ H : zH, (if (1 : Int32) < nI s.2.1 then some (some (.int 1), H) else some (some (.int 0), H) : Option zRes) = some (some (.int (if (!decide (s.2.1 < 2)) = true then 1 else 0)), H) := fun H => by
      by_cases d : s.2.1 < 2
      · rw [if_neg (show ¬ (1 : Int32) < nI s.2.1 from nI_nlt (a := 1) (by omega) (by decide))]
        simp [d]
      · rw [if_pos (show (1 : Int32) < nI s.2.1 from nI_lt (a := 1) (by omega) (by omega))]
        simp [d]
    by_cases c : s.1 < e
    · by_cases c2 : rLt zPL (T s.1) 0 5 = -9
      · rw [rHk, if_pos c, if_pos c2]
        refine ⟨Y, fun c0 b1 b2 I J Q N A V S t => (E_X6_readsHooks_36 ..).trans ?_, hy⟩
        simp only [mo_49, mg_49_0, mg_49_1, mg_49_2, mg_49_3, mg_49_4, mg_49_5, mg_49_6, mg_49_7, mg_49_8, mg_49_9, mg_49_10, mg_49_11, mg_49_12, mg_49_13, mg_49_14, mg_49_15, mg_49_16, mg_49_17, mg_49_18, mg_49_19, mg_49_20, mg_49_21, mg_49_22, mg_49_23, mg_49_24, mg_49_25, Option.bind_some, ur5, ur6, ur7, if_pos (nI_lt c (show e < 2 ^ 31 by omega)), if_true, m_here hj hT he c, zcI_some, m_pol, c2]
        exact fin _
      · by_cases c3 : s.2.1 = 7
        · rw [rHk, if_pos c, if_neg c2, if_pos c3]
          refine ⟨Y, fun c0 b1 b2 I J Q N A V S t => (E_X6_readsHooks_36 ..).trans ?_, hy⟩
          simp only [mo_49, mg_49_0, mg_49_1, mg_49_2, mg_49_3, mg_49_4, mg_49_5, mg_49_6, mg_49_7, mg_49_8, mg_49_9, mg_49_10, mg_49_11, mg_49_12, mg_49_13, mg_49_14, mg_49_15, mg_49_16, mg_49_17, mg_49_18, mg_49_19, mg_49_20, mg_49_21, mg_49_22, mg_49_23, mg_49_24, mg_49_25, Option.bind_some, ur5, ur6, ur7, if_pos (nI_lt c (show e < 2 ^ 31 by omega)), if_true, m_here hj hT he c, zcI_some, m_pol, c2, if_false]
          rw [if_pos (show nI s.2.1 = 7 by rw [c3]; rfl)]
          rfl
        · have h7 : s.2.1 < 7 := by omega
          have hi := (rHk_I (T := T) (f := 1) h1).1
          rw [rHk, if_pos c, if_neg c2, if_neg c3, rHk] at hi
          obtain ⟨Y', e1, h3⟩ := m_hooks36 hj hT he Z f (s.1 + 1, s.2.1 + 1, s.2.2.1, upd s.2.2.2.1 s.2.1 (rLt zPL (T s.1) 0 5), s.2.2.2.2) (upd Y s.2.1 (rLt zPL (T s.1) 0 5)) hi (by dsimp only; omega) (fun i hi => by
            dsimp only at hi ⊢
            by_cases q : i = s.2.1
            · rw [q, upd_s, upd_s]
            · rw [upd_n q, upd_n q]
              exact hy i (by omega))
          rw [rHk, if_pos c, if_neg c2, if_neg c3]
          refine ⟨Y', fun c0 b1 b2 I J Q N A V S t => (E_X6_readsHooks_36 ..).trans ?_, h3⟩
          simp only [mo_49, mg_49_0, mg_49_1, mg_49_2, mg_49_3, mg_49_4, mg_49_5, mg_49_6, mg_49_7, mg_49_8, mg_49_9, mg_49_10, mg_49_11, mg_49_12, mg_49_13, mg_49_14, mg_49_15, mg_49_16, mg_49_17, mg_49_18, mg_49_19, mg_49_20, mg_49_21, mg_49_22, mg_49_23, mg_49_24, mg_49_25, Option.bind_some, ur5, ur6, ur7, if_pos (nI_lt c (show e < 2 ^ 31 by omega)), if_true, m_here hj hT he c, zcI_some, m_pol, c2, if_false]
          rw [if_neg (show ¬ nI s.2.1 = 7 from fun z => c3 ((nI_eq (b := 7) (by omega) (by decide)).mp z))]
          simp only [mo_49, mg_49_0, mg_49_1, mg_49_2, mg_49_3, mg_49_4, mg_49_5, mg_49_6, mg_49_7, mg_49_8, mg_49_9, mg_49_10, mg_49_11, mg_49_12, mg_49_13, mg_49_14, mg_49_15, mg_49_16, mg_49_17, mg_49_18, mg_49_19, mg_49_20, mg_49_21, mg_49_22, mg_49_23, mg_49_24, mg_49_25, Option.bind_some, ur5, ur6, ur7, mw_60 h7, xr10, xr_10, mp_49_20, mp_49_17, nI_1, ur_7, ur_5]
          exact e1 ..
    · rw [rHk, if_neg c]
      refine ⟨Y, fun c0 b1 b2 I J Q N A V S t => (E_X6_readsHooks_36 ..).trans ?_, hy⟩
      simp only [mo_49, mg_49_0, mg_49_1, mg_49_2, mg_49_3, mg_49_4, mg_49_5, mg_49_6, mg_49_7, mg_49_8, mg_49_9, mg_49_10, mg_49_11, mg_49_12, mg_49_13, mg_49_14, mg_49_15, mg_49_16, mg_49_17, mg_49_18, mg_49_19, mg_49_20, mg_49_21, mg_49_22, mg_49_23, mg_49_24, mg_49_25, Option.bind_some, ur5, ur6, ur7, if_neg (nI_nlt (show e ≤ s.1 by omega) (show s.1 < 2 ^ 31 by omega))]
      exact fin _
theorem m_hooks (hj : j < 4) (hT : ∀ i, i < e → X 8 (60 * j + i) = T i) (he : e ≤ 60) (Y Z : zA) : ∃ Y', (∀ c0 c1 c2 I J Q N A V S t, zev r i_X6_readsHooks 0 [some (.ref (r.1 + 49))] [] (zmk r c0 c1 c2 I J Q N A (zUr U j e 0 0 0) V (zXr X Y Z) S t) = some (some (.int (if (rGo T e (rSk T e 60 0, 0, 0, rZ)).1 = true then 1 else 0)), (zmk r c0 c1 c2 I J Q N A (zUr U j e (rGo T e (rSk T e 60 0, 0, 0, rZ)).2.1 (rGo T e (rSk T e 60 0, 0, 0, rZ)).2.2.1 (rGo T e (rSk T e 60 0, 0, 0, rZ)).2.2.2.1) V (zXr X Y' Z) S t))) ∧ ∀ i, i < (rGo T e (rSk T e 60 0, 0, 0, rZ)).2.2.1 → Y' i = (rGo T e (rSk T e 60 0, 0, 0, rZ)).2.2.2.2.1 i := by
  have i0 := rZ_I (n := e) (rSk_le (T := T) (f := 60) (Nat.zero_le e))
  have es : ∀ c0 c1 c2 I J Q N A V S t, _ := fun c0 c1 c2 I J Q N A V S t => m_skip (r := r) (c0 := c0) (c1 := c1) (c2 := c2) (I := I) (J := J) (Q := Q) (N := N) (A := A) (U := U) (V := V) (S := S) (t := t) hj hT he 0 0 Y Z 60 0 (Nat.zero_le e) (by omega)
  have hp := i0.1
  dsimp only at hp
  by_cases c : rSk T e 60 0 < e
  · by_cases d : T (rSk T e 60 0) = 107
    · obtain ⟨Y', e1, h3⟩ := m_hooks36 (r := r) (U := U) hj hT he Z 61 (rSk T e 60 0 + 1, 0, 0, rZ) Y ⟨c, i0.2⟩ (by dsimp only; omega) (fun i hi => absurd hi (Nat.not_lt_zero _))
      have eg : rGo T e (rSk T e 60 0, 0, 0, rZ) = rHk T e 61 (rSk T e 60 0 + 1, 0, 0, rZ) := if_pos ⟨c, d⟩
      rw [eg]
      refine ⟨Y', fun c0 c1 c2 I J Q N A V S t => (E_X6_readsHooks_0 ..).trans ?_, h3⟩
      simp only [mo_49, mg_49_0, mg_49_1, mg_49_2, mg_49_3, mg_49_4, mg_49_5, mg_49_6, mg_49_7, mg_49_8, mg_49_9, mg_49_10, mg_49_11, mg_49_12, mg_49_13, mg_49_14, mg_49_15, mg_49_16, mg_49_17, mg_49_18, mg_49_19, mg_49_20, mg_49_21, mg_49_22, mg_49_23, mg_49_24, mg_49_25, if_true, es, zcV_some, Option.bind_some, ur5, ur6, if_neg (show ¬ nI (rSk T e 60 0) = nI e from fun z => by have := (nI_eq (by omega) (by omega)).mp z; omega), m_here hj hT he c, zcI_some, d, mp_49_17, nI_1, ur_5]
      exact e1 ..
    · have eg : rGo T e (rSk T e 60 0, 0, 0, rZ) = (false, rSk T e 60 0, 0, 0, rZ) := if_neg (fun z => d z.2)
      rw [eg]
      refine ⟨Y, fun c0 c1 c2 I J Q N A V S t => (E_X6_readsHooks_0 ..).trans ?_, fun i hi => absurd hi (Nat.not_lt_zero _)⟩
      simp only [mo_49, mg_49_0, mg_49_1, mg_49_2, mg_49_3, mg_49_4, mg_49_5, mg_49_6, mg_49_7, mg_49_8, mg_49_9, mg_49_10, mg_49_11, mg_49_12, mg_49_13, mg_49_14, mg_49_15, mg_49_16, mg_49_17, mg_49_18, mg_49_19, mg_49_20, mg_49_21, mg_49_22, mg_49_23, mg_49_24, mg_49_25, if_true, es, zcV_some, Option.bind_some, ur5, ur6, if_neg (show ¬ nI (rSk T e 60 0) = nI e from fun z => by have := (nI_eq (by omega) (by omega)).mp z; omega), m_here hj hT he c, zcI_some, d, if_false]
      rfl
  · have eg : rGo T e (rSk T e 60 0, 0, 0, rZ) = (false, rSk T e 60 0, 0, 0, rZ) := if_neg (fun z => c z.1)
    rw [eg]
    refine ⟨Y, fun c0 c1 c2 I J Q N A V S t => (E_X6_readsHooks_0 ..).trans ?_, fun i hi => absurd hi (Nat.not_lt_zero _)⟩
    simp only [mo_49, mg_49_0, mg_49_1, mg_49_2, mg_49_3, mg_49_4, mg_49_5, mg_49_6, mg_49_7, mg_49_8, mg_49_9, mg_49_10, mg_49_11, mg_49_12, mg_49_13, mg_49_14, mg_49_15, mg_49_16, mg_49_17, mg_49_18, mg_49_19, mg_49_20, mg_49_21, mg_49_22, mg_49_23, mg_49_24, mg_49_25, if_true, es, zcV_some, Option.bind_some, ur5, ur6, if_pos (show nI (rSk T e 60 0) = nI e by rw [show rSk T e 60 0 = e by omega])]
    rfl
theorem m_fig (hj : j < 4) (hT : ∀ i, i < e → X 8 (60 * j + i) = T i) (he : e ≤ 60) {lo hi p h m : Nat} {Y Z : zA} (hp : p ≤ e) : zev r i_X6_figure 0 [some (.ref (r.1 + 49)), some (.int (nI lo)), some (.int (nI hi))] [] (zmk r c0 c1 c2 I J Q N A (zUr U j e p h m) V (zXr X Y Z) S t) = if rFg T e lo hi p = true then some (some (.int (T p - 48)), (zmk r c0 c1 c2 I J Q N A (zUr U j e (p + 1) h m) V (zXr X Y Z) S t)) else some (some (.int (-9)), (zmk r c0 c1 c2 I J Q N A (zUr U j e p h m) V (zXr X Y Z) S t)) := by
  rw [E_X6_figure_0]
  by_cases c : p < e
  · have ei := m_in r (zmk r c0 c1 c2 I J Q N A (zUr U j e p h m) V (zXr X Y Z) S t) (T p) (48 + nI lo) (48 + nI hi) rfl rfl
    rw [show (48 : Int32) + nI lo = nI (48 + lo) from nI_add 48 lo, show (48 : Int32) + nI hi = nI (48 + hi) from nI_add 48 hi] at ei
    simp only [mo_49, mg_49_0, mg_49_1, mg_49_2, mg_49_3, mg_49_4, mg_49_5, mg_49_6, mg_49_7, mg_49_8, mg_49_9, mg_49_10, mg_49_11, mg_49_12, mg_49_13, mg_49_14, mg_49_15, mg_49_16, mg_49_17, mg_49_18, mg_49_19, mg_49_20, mg_49_21, mg_49_22, mg_49_23, mg_49_24, mg_49_25, Option.bind_some, ur5, ur6, if_neg (show ¬ nI p = nI e from fun z => by have := (nI_eq (by omega) (by omega)).mp z; omega), if_true, m_here hj hT he c, zcI_some, show (48 : Int32) + nI lo = nI (48 + lo) from nI_add 48 lo, show (48 : Int32) + nI hi = nI (48 + hi) from nI_add 48 hi, ei]
    rcases zbw_01 (nI (48 + lo)) (nI (48 + hi)) (T p) with q | q
    · rw [if_pos q, if_neg (show ¬ rFg T e lo hi p = true by simp [rFg, q])]
    · rw [if_neg (by rw [q]; decide), if_pos (show rFg T e lo hi p = true by simp [rFg, q, c])]
      simp only [mp_49_17, nI_1, ur_5, mo_49, mg_49_0, mg_49_1, mg_49_2, mg_49_3, mg_49_4, mg_49_5, mg_49_6, mg_49_7, mg_49_8, mg_49_9, mg_49_10, mg_49_11, mg_49_12, mg_49_13, mg_49_14, mg_49_15, mg_49_16, mg_49_17, mg_49_18, mg_49_19, mg_49_20, mg_49_21, mg_49_22, mg_49_23, mg_49_24, mg_49_25, Option.bind_some, ur4, ur5, nI_add, xr8]
      rw [← Nat.add_assoc, nI_pred, ma_58 (show 60 * j + p < 240 by omega), xr8, hT p c]
      rfl
  · rw [if_neg (show ¬ rFg T e lo hi p = true by simp [rFg, c])]
    simp only [mo_49, mg_49_0, mg_49_1, mg_49_2, mg_49_3, mg_49_4, mg_49_5, mg_49_6, mg_49_7, mg_49_8, mg_49_9, mg_49_10, mg_49_11, mg_49_12, mg_49_13, mg_49_14, mg_49_15, mg_49_16, mg_49_17, mg_49_18, mg_49_19, mg_49_20, mg_49_21, mg_49_22, mg_49_23, mg_49_24, mg_49_25, Option.bind_some, ur5, ur6, if_pos (show nI p = nI e by rw [show p = e by omega])]
/-- the reference's men as they have been read -/
def rZm (Z : zA) (s : zRd) : Prop := ∀ i, i < s.2.2.1 → Z (4 * i) = s.2.2.2.2.1 i ∧ Z (4 * i + 1) = s.2.2.2.2.2.1 i ∧ Z (4 * i + 2) = s.2.2.2.2.2.2.1 i ∧ Z (4 * i + 3) = s.2.2.2.2.2.2.2 i
theorem m_rman (hj : j < 4) (hT : ∀ i, i < e → X 8 (60 * j + i) = T i) (he : e ≤ 60) {s : zRd} {Y Z : zA} (h1 : rI e s) (c : s.1 < e) (m6 : s.2.2.1 < 6) (mh : s.2.2.1 < s.2.1) (hz : rZm Z s) : ∃ Z', (∀ c0 c1 c2 I J Q N A V S t, zev r i_X6_readsMan 0 [some (.ref (r.1 + 49)), none, none, none, none] [] (zmk r c0 c1 c2 I J Q N A (zUr U j e s.1 s.2.1 s.2.2.1) V (zXr X Y Z) S t) = some (some (.int (if (rMn T e s).1 = true then 1 else 0)), (zmk r c0 c1 c2 I J Q N A (zUr U j e (rMn T e s).2.1 (rMn T e s).2.2.1 (rMn T e s).2.2.2.1) V (zXr X Y Z') S t))) ∧ rZm Z' (rMn T e s).2 := by
  have hh := h1.2.1
  have n6 : ¬ nI s.2.2.1 = 6 := fun z => by have := (nI_eq (b := 6) (by omega) (by decide)).mp z; omega
  have nh : ¬ nI s.2.2.1 = nI s.2.1 := fun z => by have := (nI_eq (by omega) (by omega)).mp z; omega
  have F1 : ∀ c0 c1 c2 I J Q N A V S t p, p ≤ e → _ := fun c0 c1 c2 I J Q N A V S t p hp => m_fig (r := r) (c0 := c0) (c1 := c1) (c2 := c2) (I := I) (J := J) (Q := Q) (N := N) (A := A) (U := U) (V := V) (S := S) (t := t) hj hT he (lo := 1) (hi := 9) (p := p) (h := s.2.1) (m := s.2.2.1) (Y := Y) (Z := Z) hp
  have F2 : ∀ c0 c1 c2 I J Q N A V S t p, p ≤ e → _ := fun c0 c1 c2 I J Q N A V S t p hp => m_fig (r := r) (c0 := c0) (c1 := c1) (c2 := c2) (I := I) (J := J) (Q := Q) (N := N) (A := A) (U := U) (V := V) (S := S) (t := t) hj hT he (lo := 0) (hi := 1) (p := p) (h := s.2.1) (m := s.2.2.1) (Y := Y) (Z := Z) hp
  have F3 : ∀ c0 c1 c2 I J Q N A V S t p, p ≤ e → _ := fun c0 c1 c2 I J Q N A V S t p hp => m_fig (r := r) (c0 := c0) (c1 := c1) (c2 := c2) (I := I) (J := J) (Q := Q) (N := N) (A := A) (U := U) (V := V) (S := S) (t := t) hj hT he (lo := 0) (hi := 3) (p := p) (h := s.2.1) (m := s.2.2.1) (Y := Y) (Z := Z) hp
  have st : ∀ c0 c1 c2 I J Q N A V S t, zev r i_X6_readsMan 0 [some (.ref (r.1 + 49)), none, none, none, none] [] (zmk r c0 c1 c2 I J Q N A (zUr U j e s.1 s.2.1 s.2.2.1) V (zXr X Y Z) S t) = if rLt zKL (T s.1) 0 6 = -9 then some (some (.int 0), (zmk r c0 c1 c2 I J Q N A (zUr U j e s.1 s.2.1 s.2.2.1) V (zXr X Y Z) S t)) else if rFg T e 1 9 (s.1 + 1) = true then if rFg T e 0 1 (s.1 + 2) = true then if rFg T e 0 3 (s.1 + 3) = true then zev r i_X6_readsMan 89 [some (.ref (r.1 + 49)), some (.int (rLt zKL (T s.1) 0 6)), some (.int (T (s.1 + 1) - 48)), some (.int (T (s.1 + 2) - 48)), none] [.int (T (s.1 + 3) - 48)] (zmk r c0 c1 c2 I J Q N A (zUr U j e (s.1 + 4) s.2.1 s.2.2.1) V (zXr X Y Z) S t) else some (some (.int 0), (zmk r c0 c1 c2 I J Q N A (zUr U j e (s.1 + 3) s.2.1 s.2.2.1) V (zXr X Y Z) S t)) else some (some (.int 0), (zmk r c0 c1 c2 I J Q N A (zUr U j e (s.1 + 2) s.2.1 s.2.2.1) V (zXr X Y Z) S t)) else some (some (.int 0), (zmk r c0 c1 c2 I J Q N A (zUr U j e (s.1 + 1) s.2.1 s.2.2.1) V (zXr X Y Z) S t)) := fun c0 b1 b2 I J Q N A V S t => by
    refine (E_X6_readsMan_0 ..).trans ?_
    simp only [mo_49, mg_49_0, mg_49_1, mg_49_2, mg_49_3, mg_49_4, mg_49_5, mg_49_6, mg_49_7, mg_49_8, mg_49_9, mg_49_10, mg_49_11, mg_49_12, mg_49_13, mg_49_14, mg_49_15, mg_49_16, mg_49_17, mg_49_18, mg_49_19, mg_49_20, mg_49_21, mg_49_22, mg_49_23, mg_49_24, mg_49_25, if_true, m_here hj hT he c, zcI_some, m_kol]
    by_cases c1 : rLt zKL (T s.1) 0 6 = -9
    · rw [if_pos c1, if_pos c1]
    · rw [if_neg c1, if_neg c1]
      simp only [Option.bind_some, ur8, ur7, ur5, n6, nh, if_false, mp_49_17, nI_1, ur_5, mo_49, mg_49_0, mg_49_1, mg_49_2, mg_49_3, mg_49_4, mg_49_5, mg_49_6, mg_49_7, mg_49_8, mg_49_9, mg_49_10, mg_49_11, mg_49_12, mg_49_13, mg_49_14, mg_49_15, mg_49_16, mg_49_17, mg_49_18, mg_49_19, mg_49_20, mg_49_21, mg_49_22, mg_49_23, mg_49_24, mg_49_25, if_true]
      have f1 := F1 c0 b1 b2 I J Q N A V S t (s.1 + 1) c
      rw [show nI 1 = (1 : Int32) from rfl, show nI 9 = (9 : Int32) from rfl] at f1
      rw [f1]
      by_cases c2 : rFg T e 1 9 (s.1 + 1) = true
      · obtain ⟨p2, -, a2, ha2, e2⟩ := fig_of (by decide) (by decide) c2
        have f2 := F2 c0 b1 b2 I J Q N A V S t (s.1 + 2) p2
        rw [show nI 0 = (0 : Int32) from rfl, show nI 1 = (1 : Int32) from rfl] at f2
        rw [if_pos c2, if_pos c2, zcI_some, if_neg (by rw [e2]; exact nI_n9 (by omega))]
        simp only [mo_49, mg_49_0, mg_49_1, mg_49_2, mg_49_3, mg_49_4, mg_49_5, mg_49_6, mg_49_7, mg_49_8, mg_49_9, mg_49_10, mg_49_11, mg_49_12, mg_49_13, mg_49_14, mg_49_15, mg_49_16, mg_49_17, mg_49_18, mg_49_19, mg_49_20, mg_49_21, mg_49_22, mg_49_23, mg_49_24, mg_49_25, if_true]
        rw [f2]
        by_cases c3 : rFg T e 0 1 (s.1 + 2) = true
        · obtain ⟨p3, -, a3, ha3, e3⟩ := fig_of (by decide) (by decide) c3
          have f3 := F3 c0 b1 b2 I J Q N A V S t (s.1 + 3) p3
          rw [show nI 0 = (0 : Int32) from rfl, show nI 3 = (3 : Int32) from rfl] at f3
          rw [if_pos c3, if_pos c3, zcI_some, if_neg (by rw [e3]; exact nI_n9 (by omega))]
          simp only [mo_49, mg_49_0, mg_49_1, mg_49_2, mg_49_3, mg_49_4, mg_49_5, mg_49_6, mg_49_7, mg_49_8, mg_49_9, mg_49_10, mg_49_11, mg_49_12, mg_49_13, mg_49_14, mg_49_15, mg_49_16, mg_49_17, mg_49_18, mg_49_19, mg_49_20, mg_49_21, mg_49_22, mg_49_23, mg_49_24, mg_49_25, if_true]
          rw [f3]
          by_cases c4 : rFg T e 0 3 (s.1 + 3) = true
          · rw [if_pos c4, if_pos c4, zcI_some]
          · rw [if_neg c4, if_neg c4, zcI_some, E_X6_readsMan_89, if_pos rfl]
        · rw [if_neg c3, if_neg c3, zcI_some, if_pos rfl, E_X6_readsMan_89, if_pos rfl]
      · rw [if_neg c2, if_neg c2, zcI_some, if_pos rfl, E_X6_readsMan_89, if_pos rfl]
  unfold rMn
  by_cases c1 : rLt zKL (T s.1) 0 6 = -9
  · rw [if_pos c1]
    exact ⟨Z, fun c0 c1' c2' I J Q N A V S t => (st c0 c1' c2' I J Q N A V S t).trans (if_pos c1), hz⟩
  · rw [if_neg c1]
    by_cases c2 : rFg T e 1 9 (s.1 + 1) = true
    · rw [if_pos c2]
      by_cases c3 : rFg T e 0 1 (s.1 + 2) = true
      · rw [if_pos c3]
        by_cases c4 : rFg T e 0 3 (s.1 + 3) = true
        · rw [if_pos c4]
          obtain ⟨p4, -, a4, ha4, e4⟩ := fig_of (by decide) (by decide) c4
          refine ⟨upd (upd (upd (upd Z (4 * s.2.2.1) (rLt zKL (T s.1) 0 6)) (4 * s.2.2.1 + 1) (T (s.1 + 1) - 48)) (4 * s.2.2.1 + 2) (T (s.1 + 2) - 48)) (4 * s.2.2.1 + 3) (T (s.1 + 3) - 48), ?_, fun i hi => ?_⟩
          · intro c0 c1' c2' I J Q N A V S t
            refine (st c0 c1' c2' I J Q N A V S t).trans ?_
            rw [if_neg c1, if_pos c2, if_pos c3, if_pos c4]
            refine (E_X6_readsMan_89 ..).trans ?_
            have q0 : (4 : Int32) * nI s.2.2.1 = nI (4 * s.2.2.1) := pk_mul 4 _
            have q1 : nI (4 * s.2.2.1) + 1 = nI (4 * s.2.2.1 + 1) := nI_add _ 1
            have q2 : nI (4 * s.2.2.1) + 2 = nI (4 * s.2.2.1 + 2) := nI_add _ 2
            have q3 : nI (4 * s.2.2.1) + 3 = nI (4 * s.2.2.1 + 3) := nI_add _ 3
            rw [if_neg (by rw [e4]; exact nI_n9 (by omega))]
            simp only [mo_49, mg_49_0, mg_49_1, mg_49_2, mg_49_3, mg_49_4, mg_49_5, mg_49_6, mg_49_7, mg_49_8, mg_49_9, mg_49_10, mg_49_11, mg_49_12, mg_49_13, mg_49_14, mg_49_15, mg_49_16, mg_49_17, mg_49_18, mg_49_19, mg_49_20, mg_49_21, mg_49_22, mg_49_23, mg_49_24, mg_49_25, Option.bind_some, ur8, q0, q1, q2, q3, mw_61 (show 4 * s.2.2.1 < 24 by omega), mw_61 (show 4 * s.2.2.1 + 1 < 24 by omega), mw_61 (show 4 * s.2.2.1 + 2 < 24 by omega), mw_61 (show 4 * s.2.2.1 + 3 < 24 by omega), xr11, xr_11, mp_49_22, nI_1, ur_8]
            rfl
          · dsimp only at hi ⊢
            by_cases q : i = s.2.2.1
            · subst q
              rw [upd_s, upd_s, upd_s, upd_s, upd_s, upd_n (by omega), upd_n (by omega), upd_n (by omega), upd_s, upd_n (by omega), upd_n (by omega), upd_s, upd_n (by omega), upd_s]
              exact ⟨rfl, rfl, rfl, rfl⟩
            · rw [upd_n q, upd_n q, upd_n q, upd_n q]
              have := hz i (by omega)
              refine ⟨?_, ?_, ?_, ?_⟩
              · rw [upd_n (by omega), upd_n (by omega), upd_n (by omega), upd_n (by omega)]; exact this.1
              · rw [upd_n (by omega), upd_n (by omega), upd_n (by omega), upd_n (by omega)]; exact this.2.1
              · rw [upd_n (by omega), upd_n (by omega), upd_n (by omega), upd_n (by omega)]; exact this.2.2.1
              · rw [upd_n (by omega), upd_n (by omega), upd_n (by omega), upd_n (by omega)]; exact this.2.2.2
        · rw [if_neg c4]
          exact ⟨Z, fun c0 c1' c2' I J Q N A V S t => (st c0 c1' c2' I J Q N A V S t).trans (by rw [if_neg c1, if_pos c2, if_pos c3, if_neg c4]; rfl), hz⟩
      · rw [if_neg c3]
        exact ⟨Z, fun c0 c1' c2' I J Q N A V S t => (st c0 c1' c2' I J Q N A V S t).trans (by rw [if_neg c1, if_pos c2, if_neg c3]; rfl), hz⟩
    · rw [if_neg c2]
      exact ⟨Z, fun c0 c1' c2' I J Q N A V S t => (st c0 c1' c2' I J Q N A V S t).trans (by rw [if_neg c1, if_neg c2]; rfl), hz⟩
/-- one too many -/
theorem m_rmany (hj : j < 4) (hT : ∀ i, i < e → X 8 (60 * j + i) = T i) (he : e ≤ 60) {s : zRd} {Y Z : zA} (h1 : rI e s) (c : s.1 < e) (mm : ¬ (s.2.2.1 < 6 ∧ s.2.2.1 < s.2.1)) : zev r i_X6_readsMan 0 [some (.ref (r.1 + 49)), none, none, none, none] [] (zmk r c0 c1 c2 I J Q N A (zUr U j e s.1 s.2.1 s.2.2.1) V (zXr X Y Z) S t) = some (some (.int 0), (zmk r c0 c1 c2 I J Q N A (zUr U j e s.1 s.2.1 s.2.2.1) V (zXr X Y Z) S t)) := by
  obtain ⟨-, hh, h6, hm, -⟩ := h1
  refine (E_X6_readsMan_0 ..).trans ?_
  simp only [mo_49, mg_49_0, mg_49_1, mg_49_2, mg_49_3, mg_49_4, mg_49_5, mg_49_6, mg_49_7, mg_49_8, mg_49_9, mg_49_10, mg_49_11, mg_49_12, mg_49_13, mg_49_14, mg_49_15, mg_49_16, mg_49_17, mg_49_18, mg_49_19, mg_49_20, mg_49_21, mg_49_22, mg_49_23, mg_49_24, mg_49_25, if_true, m_here hj hT he c, zcI_some, m_kol, Option.bind_some, ur8, ur7]
  split
  · rfl
  · by_cases q : s.2.2.1 = 6
    · rw [if_pos (show nI s.2.2.1 = 6 by rw [q]; rfl)]
    · rw [if_neg (show ¬ nI s.2.2.1 = 6 from fun z => q ((nI_eq (b := 6) (by omega) (by decide)).mp z)), if_pos (show nI s.2.2.1 = nI s.2.1 by rw [show s.2.2.1 = s.2.1 by omega])]
/-- the end of the reading -/
theorem m_46e {s : zRd} {Y Z : zA} (h1 : rI e s) (he : e ≤ 60) (c : ¬ s.1 < e) (a : Int32) : zev r i_X6_faultOf 46 [some (.ref (r.1 + 49)), some (.int a), some (.int 1)] [] (zmk r c0 c1 c2 I J Q N A (zUr U j e s.1 s.2.1 s.2.2.1) V (zXr X Y Z) S t) = some (some (.int (if 0 < s.2.2.1 then -9 else nI s.1)), (zmk r c0 c1 c2 I J Q N A (zUr U j e s.1 s.2.1 s.2.2.1) V (zXr X Y Z) S t)) := by
  have hp := h1.1
  have hm := h1.2.2.1
  refine (E_X6_faultOf_46 ..).trans ?_
  simp only [i01, if_false, mo_49, mg_49_0, mg_49_1, mg_49_2, mg_49_3, mg_49_4, mg_49_5, mg_49_6, mg_49_7, mg_49_8, mg_49_9, mg_49_10, mg_49_11, mg_49_12, mg_49_13, mg_49_14, mg_49_15, mg_49_16, mg_49_17, mg_49_18, mg_49_19, mg_49_20, mg_49_21, mg_49_22, mg_49_23, mg_49_24, mg_49_25, Option.bind_some, ur5, ur6, ur8, if_neg (nI_nlt (show e ≤ s.1 by omega) (show s.1 < 2 ^ 31 by omega))]
  by_cases d : 0 < s.2.2.1
  · rw [if_pos d, if_pos (show 0 < nI s.2.2.1 from nI_lt (a := 0) d (by omega))]
  · rw [if_neg d, if_neg (show ¬ 0 < nI s.2.2.1 from nI_nlt (a := 0) (by omega) (by omega))]
theorem m_46z {s : zRd} {Y Z : zA} (a : Int32) : zev r i_X6_faultOf 46 [some (.ref (r.1 + 49)), some (.int a), some (.int 0)] [] (zmk r c0 c1 c2 I J Q N A (zUr U j e s.1 s.2.1 s.2.2.1) V (zXr X Y Z) S t) = some (some (.int (nI s.1)), (zmk r c0 c1 c2 I J Q N A (zUr U j e s.1 s.2.1 s.2.2.1) V (zXr X Y Z) S t)) := by
  refine (E_X6_faultOf_46 ..).trans ?_
  simp only [if_true, mo_49, mg_49_0, mg_49_1, mg_49_2, mg_49_3, mg_49_4, mg_49_5, mg_49_6, mg_49_7, mg_49_8, mg_49_9, mg_49_10, mg_49_11, mg_49_12, mg_49_13, mg_49_14, mg_49_15, mg_49_16, mg_49_17, mg_49_18, mg_49_19, mg_49_20, mg_49_21, mg_49_22, mg_49_23, mg_49_24, mg_49_25, Option.bind_some, ur5]
theorem m_46 (hj : j < 4) (hT : ∀ i, i < e → X 8 (60 * j + i) = T i) (he : e ≤ 60) (Y : zA) (a : Int32) : ∀ (f : Nat) (s : zRd) (Z : zA), rI e s → f + s.2.2.1 = 6 → rZm Z s → ∃ Z', (∀ c0 c1 c2 I J Q N A V S t, zev r i_X6_faultOf 46 [some (.ref (r.1 + 49)), some (.int a), some (.int 1)] [] (zmk r c0 c1 c2 I J Q N A (zUr U j e s.1 s.2.1 s.2.2.1) V (zXr X Y Z) S t) = some (some (.int (rMs T e f s).1), (zmk r c0 c1 c2 I J Q N A (zUr U j e (rMs T e f s).2.1 (rMs T e f s).2.2.1 (rMs T e f s).2.2.2.1) V (zXr X Y Z') S t))) ∧ rZm Z' (rMs T e f s).2
  | 0, s, Z, h1, h2, hz => by
    rw [rMs]
    by_cases c : s.1 < e
    · refine ⟨Z, fun c0 c1 c2 I J Q N A V S t => (E_X6_faultOf_46 ..).trans ?_, hz⟩
      simp only [i01, if_false, mo_49, mg_49_0, mg_49_1, mg_49_2, mg_49_3, mg_49_4, mg_49_5, mg_49_6, mg_49_7, mg_49_8, mg_49_9, mg_49_10, mg_49_11, mg_49_12, mg_49_13, mg_49_14, mg_49_15, mg_49_16, mg_49_17, mg_49_18, mg_49_19, mg_49_20, mg_49_21, mg_49_22, mg_49_23, mg_49_24, mg_49_25, Option.bind_some, ur5, ur6, if_pos (nI_lt c (show e < 2 ^ 31 by omega)), if_true, m_rmany hj hT he h1 c (show ¬ (s.2.2.1 < 6 ∧ s.2.2.1 < s.2.1) by omega), zcI_some, m_46z, c]
    · refine ⟨Z, fun c0 c1 c2 I J Q N A V S t => (m_46e h1 he c a).trans ?_, hz⟩
      rw [if_neg c]
  | f + 1, s, Z, h1, h2, hz => by
    by_cases c : s.1 < e
    · by_cases d2 : s.2.2.1 < 6 ∧ s.2.2.1 < s.2.1
      · obtain ⟨i1, i2, i3⟩ := rMn_I (T := T) h1 c d2.1 d2.2
        obtain ⟨Z1, e1, z1⟩ := m_rman (r := r) (U := U) (Y := Y) hj hT he h1 c d2.1 d2.2 hz
        by_cases d3 : (rMn T e s).1 = true
        · obtain ⟨Z', e2, z2⟩ := m_46 hj hT he Y a f (rSk T e 60 (rMn T e s).2.1, (rMn T e s).2.2) Z1 (rSk_I 60 i1) (by dsimp only; rw [i3 d3]; omega) z1
          rw [rMs, if_pos c, if_pos d2, if_pos d3]
          refine ⟨Z', fun c0 c1 c2 I J Q N A V S t => (E_X6_faultOf_46 ..).trans ?_, z2⟩
          rw [if_pos d3] at e1
          have es := m_skip (r := r) (c0 := c0) (c1 := c1) (c2 := c2) (I := I) (J := J) (Q := Q) (N := N) (A := A) (U := U) (V := V) (S := S) (t := t) hj hT he (rMn T e s).2.2.1 (rMn T e s).2.2.2.1 Y Z1 60 (rMn T e s).2.1 i1.1 (by omega)
          simp only [i01, if_false, mo_49, mg_49_0, mg_49_1, mg_49_2, mg_49_3, mg_49_4, mg_49_5, mg_49_6, mg_49_7, mg_49_8, mg_49_9, mg_49_10, mg_49_11, mg_49_12, mg_49_13, mg_49_14, mg_49_15, mg_49_16, mg_49_17, mg_49_18, mg_49_19, mg_49_20, mg_49_21, mg_49_22, mg_49_23, mg_49_24, mg_49_25, Option.bind_some, ur5, ur6, if_pos (nI_lt c (show e < 2 ^ 31 by omega)), if_true, e1, zcI_some, es, zcV_some]
          exact e2 ..
        · rw [rMs, if_pos c, if_pos d2, if_neg d3]
          refine ⟨Z1, fun c0 c1 c2 I J Q N A V S t => (E_X6_faultOf_46 ..).trans ?_, z1⟩
          rw [if_neg d3] at e1
          simp only [i01, if_false, mo_49, mg_49_0, mg_49_1, mg_49_2, mg_49_3, mg_49_4, mg_49_5, mg_49_6, mg_49_7, mg_49_8, mg_49_9, mg_49_10, mg_49_11, mg_49_12, mg_49_13, mg_49_14, mg_49_15, mg_49_16, mg_49_17, mg_49_18, mg_49_19, mg_49_20, mg_49_21, mg_49_22, mg_49_23, mg_49_24, mg_49_25, Option.bind_some, ur5, ur6, if_pos (nI_lt c (show e < 2 ^ 31 by omega)), if_true, e1, zcI_some]
          exact m_46z (s := (rMn T e s).2) a
      · rw [rMs, if_pos c, if_neg d2]
        refine ⟨Z, fun c0 c1 c2 I J Q N A V S t => (E_X6_faultOf_46 ..).trans ?_, hz⟩
        simp only [i01, if_false, mo_49, mg_49_0, mg_49_1, mg_49_2, mg_49_3, mg_49_4, mg_49_5, mg_49_6, mg_49_7, mg_49_8, mg_49_9, mg_49_10, mg_49_11, mg_49_12, mg_49_13, mg_49_14, mg_49_15, mg_49_16, mg_49_17, mg_49_18, mg_49_19, mg_49_20, mg_49_21, mg_49_22, mg_49_23, mg_49_24, mg_49_25, Option.bind_some, ur5, ur6, if_pos (nI_lt c (show e < 2 ^ 31 by omega)), if_true, m_rmany hj hT he h1 c d2, zcI_some, m_46z]
    · rw [rMs, if_neg c]
      exact ⟨Z, fun c0 c1 c2 I J Q N A V S t => m_46e h1 he c a, hz⟩
theorem m_faultOf (hj : j < 4) (hT : ∀ i, i < e → X 8 (60 * j + i) = T i) (he : e ≤ 60) (h7 : X 7 j = nI e) : ∃ Y Z, (∀ c0 c1 c2 I J Q N A V S t, zev r i_X6_faultOf 0 [some (.ref (r.1 + 49)), some (.int (nI j)), none] [] (zmk r c0 c1 c2 I J Q N A U V X S t) = some (some (.int (rAll T e).1), (zmk r c0 c1 c2 I J Q N A (zUr U j e (rAll T e).2.1 (rAll T e).2.2.1 (rAll T e).2.2.2.1) V (zXr X Y Z) S t))) ∧ (∀ i, i < (rAll T e).2.2.1 → Y i = (rAll T e).2.2.2.2.1 i) ∧ rZm Z (rAll T e).2 := by
  have i0 := rZ_I (n := e) (rSk_le (T := T) (f := 60) (Nat.zero_le e))
  obtain ⟨i1, i2, i3⟩ := rGo_I (T := T) i0
  dsimp only at i2
  obtain ⟨Y, e1, hY⟩ := m_hooks (r := r) (U := U) hj hT he (X 10) (X 11)
  have st : ∀ c0 c1 c2 I J Q N A V S t, zev r i_X6_faultOf 0 [some (.ref (r.1 + 49)), some (.int (nI j)), none] [] (zmk r c0 c1 c2 I J Q N A U V X S t) = zcI (zev r i_X6_readsHooks 0 [some (.ref (r.1 + 49))] [] (zmk r c0 c1 c2 I J Q N A (zUr U j e 0 0 0) V (zXr X (X 10) (X 11)) S t)) fun v3 h6 => if v3 = 0 then zev r i_X6_faultOf 46 [some (.ref (r.1 + 49)), some (.int (nI j)), some (.int v3)] [] h6 else if zob r h6 (r.1 + 49) 6 = true then (zcV (zev r i_X6_skip 0 [some (.ref (r.1 + 49))] [] h6) fun h7 => zev r i_X6_faultOf 46 [some (.ref (r.1 + 49)), some (.int (nI j)), some (.int v3)] [] h7) else none := fun c0 c1 c2 I J Q N A V S t => by
    refine (E_X6_faultOf_0 ..).trans ?_
    rw [show (60 : Int32) * nI j = nI (60 * j) from pk_mul 60 j]
    simp only [mp_49_16, Option.bind_some, show ((0 : Int32)) = nI 0 from rfl, mp_49_17, mo_49, mg_49_0, mg_49_1, mg_49_2, mg_49_3, mg_49_4, mg_49_5, mg_49_6, mg_49_7, mg_49_8, mg_49_9, mg_49_10, mg_49_11, mg_49_12, mg_49_13, mg_49_14, mg_49_15, mg_49_16, mg_49_17, mg_49_18, mg_49_19, mg_49_20, mg_49_21, mg_49_22, mg_49_23, mg_49_24, mg_49_25, ma_57 hj, h7, mp_49_18, mp_49_20, mp_49_22, if_true]
    rw [ur_0, xr_0]
  by_cases c : (rGo T e (rSk T e 60 0, 0, 0, rZ)).1 = true
  · have es : ∀ c0 c1 c2 I J Q N A V S t, _ := fun c0 c1 c2 I J Q N A V S t => m_skip (r := r) (c0 := c0) (c1 := c1) (c2 := c2) (I := I) (J := J) (Q := Q) (N := N) (A := A) (U := U) (V := V) (S := S) (t := t) hj hT he (rGo T e (rSk T e 60 0, 0, 0, rZ)).2.2.1 (rGo T e (rSk T e 60 0, 0, 0, rZ)).2.2.2.1 Y (X 11) 60 (rGo T e (rSk T e 60 0, 0, 0, rZ)).2.1 i1.1 (by have := i1.1; omega)
    have hz : rZm (X 11) (rSk T e 60 (rGo T e (rSk T e 60 0, 0, 0, rZ)).2.1, (rGo T e (rSk T e 60 0, 0, 0, rZ)).2.2) := fun i hi => by
      dsimp only at hi
      rw [i2] at hi
      exact absurd hi (Nat.not_lt_zero _)
    obtain ⟨Z, e2, z2⟩ := m_46 (r := r) (U := U) hj hT he Y (nI j) 6 (rSk T e 60 (rGo T e (rSk T e 60 0, 0, 0, rZ)).2.1, (rGo T e (rSk T e 60 0, 0, 0, rZ)).2.2) (X 11) (rSk_I 60 i1) (by dsimp only; rw [i2]) hz
    have ea : rAll T e = rMs T e 6 (rSk T e 60 (rGo T e (rSk T e 60 0, 0, 0, rZ)).2.1, (rGo T e (rSk T e 60 0, 0, 0, rZ)).2.2) := by
      unfold rAll
      rw [if_pos c]
    have hk := rMs_h (T := T) (n := e) (f := 6) (s := (rSk T e 60 (rGo T e (rSk T e 60 0, 0, 0, rZ)).2.1, (rGo T e (rSk T e 60 0, 0, 0, rZ)).2.2))
    rw [ea]
    refine ⟨Y, Z, ?_, fun i hi => ?_, z2⟩
    · intro c0 c1 c2 I J Q N A V S t
      rw [st, e1, zcI_some, if_pos c, if_neg i01]
      simp only [mo_49, mg_49_0, mg_49_1, mg_49_2, mg_49_3, mg_49_4, mg_49_5, mg_49_6, mg_49_7, mg_49_8, mg_49_9, mg_49_10, mg_49_11, mg_49_12, mg_49_13, mg_49_14, mg_49_15, mg_49_16, mg_49_17, mg_49_18, mg_49_19, mg_49_20, mg_49_21, mg_49_22, mg_49_23, mg_49_24, mg_49_25, if_true, es, zcV_some]
      exact e2 ..
    · rw [hk.1] at hi
      rw [hk.2]
      exact hY i hi
  · have ea : rAll T e = (nI (rGo T e (rSk T e 60 0, 0, 0, rZ)).2.1, (rGo T e (rSk T e 60 0, 0, 0, rZ)).2) := by
      unfold rAll
      rw [if_neg c]
    rw [ea]
    refine ⟨Y, X 11, ?_, hY, fun i hi => ?_⟩
    · intro c0 c1 c2 I J Q N A V S t
      rw [st, e1, zcI_some, if_neg c, if_pos rfl]
      exact m_46z (s := (rGo T e (rSk T e 60 0, 0, 0, rZ)).2) (nI j)
    · dsimp only at hi
      rw [i2] at hi
      exact absurd hi (Nat.not_lt_zero _)
end MRD
