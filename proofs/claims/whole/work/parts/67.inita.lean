/-! THE CLASS'S CONSTRUCTOR -/
section INIT5
variable {r : zE}
def zCr (r : zE) : zC := .inr (.inr (1, [.int 0, .int 0, .ref (r.1 + 4), .ref (r.1 + 5), .ref (r.1 + 6), .ref (r.1 + 7), .ref (r.1 + 8)]))
/-- the class's object and what it has at first, behind it the rows, texts, kept decks -/
def zmz (r : zE) (N A : zBr) (f1 f2 f3 : Nat → Option Nat) (l : zH) : zH := [
  .inr (.inr (5, [.ref (r.1 + 1), .ref (r.1 + 2), .ref (r.1 + 3), .ref (r.1 + 9), .ref (r.1 + 14), .ref (r.1 + 19), .ref (r.1 + 21), .int 0, .long 0, .long 1, .int 0, .ref (r.1 + 22)])),
  .inr (.inl (4, 6, f1)), .inr (.inl (4, 4, f2)), zCr r, .inl (7, fun _ => 0), .inl (6, fun _ => 0), .inl (6, fun _ => 0), .inl (6, fun _ => 0), .inl (6, fun _ => 0),
  .inr (.inr (0, [.ref (r.1 + 3), .ref (r.1 + 10), .ref (r.1 + 11), .ref (r.1 + 12), .ref (r.1 + 13)])), .inl (6, N.1), .inl (7, N.2.1), .inl (6, N.2.2.1), .inl (6, N.2.2.2),
  .inr (.inr (0, [.ref (r.1 + 3), .ref (r.1 + 15), .ref (r.1 + 16), .ref (r.1 + 17), .ref (r.1 + 18)])), .inl (6, A.1), .inl (7, A.2.1), .inl (6, A.2.2.1), .inl (6, A.2.2.2),
  .inr (.inr (2, [.ref (r.1 + 20), .int 0])), .inl (1098, fun _ => 0), .inr (.inl (2, 3, f3)), .inl (6, fun _ => 0)] ++ l
theorem zmz_app {N A : zBr} {f1 f2 f3 : Nat → Option Nat} {l l2 : zH} : zmz r N A f1 f2 f3 l ++ l2 = zmz r N A f1 f2 f3 (l ++ l2) := List.append_assoc _ _ _
theorem zmz_len {N A : zBr} {f1 f2 f3 : Nat → Option Nat} {l : zH} : (zmz r N A f1 f2 f3 l).length = 23 + l.length := by
  unfold zmz
  rw [List.length_append]
  rfl
theorem zsQ_of {h : zH} {k ci n j v : Nat} {f : Nat → Option Nat} (e : h[k]? = some (.inr (.inl (ci, n, f)))) (ho : zob r h v ci = true) (hc : ci = 4 ∨ ci = 2) (hj : j < n) (hn : n < 2 ^ 31) : zsQ r h (r.1 + k) (nI j) v = some (h.set k (.inr (.inl (ci, n, va_up f j (some v))))) := by
  simp only [zsQ, zget_add, e, if_pos (show zob r h v ci = true ∧ (ci = 4 ∨ ci = 2) from ⟨ho, hc⟩), zix_nI hj hn, Option.map_some, Nat.add_sub_cancel_left]
theorem zpF_0 {fs : List Value} {l : zH} {f : Nat} {v : Value} (hl : f < fs.length) : zpF r (.inr (.inr (5, fs)) :: l) (r.1 + 0) 5 f v = some (.inr (.inr (5, fs.set f v)) :: l) := zpF_of (k := 0) rfl hl
def zRw (a : Nat) : zH := [.inr (.inr (4, [.ref a, .int (-1)])), .inl (60, fun _ => 0)]
def zKeptLog (a : Nat) : zH := [.inr (.inr (2, [.ref a, .int (-1)])), .inl (1098, fun _ => 0)]
theorem i_112 {N A : zBr} {f1 f2 f3 : Nat → Option Nat} {l : zH} {j : Nat} (hj : j < 6) : zev r i_X5_init 112 [some (.ref (r.1 + 0)), some (.int (nI j))] [] (zmz r N A f1 f2 f3 l) = zev r i_X5_init 112 [some (.ref (r.1 + 0)), some (.int (nI (j + 1)))] [] (zmz r N A (va_up f1 j (some (r.1 + (23 + l.length)))) f2 f3 (l ++ zRw (r.1 + (23 + l.length + 1)))) := by
  have o0 : ∀ f1 l, zgR r (zmz r N A f1 f2 f3 l) (r.1 + 0) 5 0 = some (r.1 + 1) := fun f1 l => zgR_of (k := 0) rfl rfl
  have n1 : ∀ f1 l, zaN r (zmz r N A f1 f2 f3 l) (r.1 + 1) = some 6 := fun f1 l => zaNq_of (k := 1) rfl (by decide)
  have ei := rw_init r (zmz r N A f1 f2 f3 l)
  rw [zmz_app, zmz_app, zmz_len] at ei
  have eq : zsQ r (zmz r N A f1 f2 f3 (l ++ zRw (r.1 + (23 + l.length + 1)))) (r.1 + 1) (nI j) (r.1 + (23 + l.length)) = some (zmz r N A (va_up f1 j (some (r.1 + (23 + l.length)))) f2 f3 (l ++ zRw (r.1 + (23 + l.length + 1)))) :=
    (zsQ_of (k := 1) rfl (zob_of (k := 23 + l.length) (fs := [.ref (r.1 + (23 + l.length + 1)), .int (-1)]) (by
      rw [← zmz_app, ← zmz_len (r := r) (N := N) (A := A) (f1 := f1) (f2 := f2) (f3 := f3) (l := l), List.getElem?_append_right (Nat.le_refl _), Nat.sub_self]
      rfl)) (by decide) hj (by decide)).trans rfl
  refine (E_X5_init_112 ..).trans ?_
  simp only [o0, n1, Option.bind_some, nI_of0, if_pos (nI_lt hj (show 6 < 2 ^ 31 by decide)), zmz_len, zmz_app, ei, zcV_some]
  rw [show ([.inr (.inr (4, [.ref (r.1 + (23 + l.length + 1)), .int (-1)])), .inl (60, fun _ => 0)] : zH) = zRw (r.1 + (23 + l.length + 1)) from rfl, eq, Option.bind_some, nI_1]
theorem i_142 {N A : zBr} {f1 f2 f3 : Nat → Option Nat} {l : zH} {j : Nat} (hj : j < 4) : zev r i_X5_init 142 [some (.ref (r.1 + 0)), some (.int (nI j))] [] (zmz r N A f1 f2 f3 l) = zev r i_X5_init 142 [some (.ref (r.1 + 0)), some (.int (nI (j + 1)))] [] (zmz r N A f1 (va_up f2 j (some (r.1 + (23 + l.length)))) f3 (l ++ zRw (r.1 + (23 + l.length + 1)))) := by
  have o0 : ∀ f2 l, zgR r (zmz r N A f1 f2 f3 l) (r.1 + 0) 5 1 = some (r.1 + 2) := fun f2 l => zgR_of (k := 0) rfl rfl
  have n1 : ∀ f2 l, zaN r (zmz r N A f1 f2 f3 l) (r.1 + 2) = some 4 := fun f2 l => zaNq_of (k := 2) rfl (by decide)
  have ei := rw_init r (zmz r N A f1 f2 f3 l)
  rw [zmz_app, zmz_app, zmz_len] at ei
  have eq : zsQ r (zmz r N A f1 f2 f3 (l ++ zRw (r.1 + (23 + l.length + 1)))) (r.1 + 2) (nI j) (r.1 + (23 + l.length)) = some (zmz r N A f1 (va_up f2 j (some (r.1 + (23 + l.length)))) f3 (l ++ zRw (r.1 + (23 + l.length + 1)))) :=
    (zsQ_of (k := 2) rfl (zob_of (k := 23 + l.length) (fs := [.ref (r.1 + (23 + l.length + 1)), .int (-1)]) (by
      rw [← zmz_app, ← zmz_len (r := r) (N := N) (A := A) (f1 := f1) (f2 := f2) (f3 := f3) (l := l), List.getElem?_append_right (Nat.le_refl _), Nat.sub_self]
      rfl)) (by decide) hj (by decide)).trans rfl
  refine (E_X5_init_142 ..).trans ?_
  simp only [o0, n1, Option.bind_some, nI_of0, if_pos (nI_lt hj (show 4 < 2 ^ 31 by decide)), zmz_len, zmz_app, ei, zcV_some]
  rw [show ([.inr (.inr (4, [.ref (r.1 + (23 + l.length + 1)), .int (-1)])), .inl (60, fun _ => 0)] : zH) = zRw (r.1 + (23 + l.length + 1)) from rfl, eq, Option.bind_some, nI_1]
theorem i_172 {N A : zBr} {f1 f2 f3 : Nat → Option Nat} {l : zH} {j : Nat} (hj : j < 3) : zev r i_X5_init 172 [some (.ref (r.1 + 0)), some (.int (nI j))] [] (zmz r N A f1 f2 f3 l) = zev r i_X5_init 172 [some (.ref (r.1 + 0)), some (.int (nI (j + 1)))] [] (zmz r N A f1 f2 (va_up f3 j (some (r.1 + (23 + l.length)))) (l ++ zKeptLog (r.1 + (23 + l.length + 1)))) := by
  have o0 : ∀ f3 l, zgR r (zmz r N A f1 f2 f3 l) (r.1 + 0) 5 6 = some (r.1 + 21) := fun f3 l => zgR_of (k := 0) rfl rfl
  have n1 : ∀ f3 l, zaN r (zmz r N A f1 f2 f3 l) (r.1 + 21) = some 3 := fun f3 l => zaNq_of (k := 21) rfl (by decide)
  have ei := lg_init r (zmz r N A f1 f2 f3 l) (-1)
  rw [zmz_app, zmz_app, zmz_len] at ei
  have eq : zsQ r (zmz r N A f1 f2 f3 (l ++ zKeptLog (r.1 + (23 + l.length + 1)))) (r.1 + 21) (nI j) (r.1 + (23 + l.length)) = some (zmz r N A f1 f2 (va_up f3 j (some (r.1 + (23 + l.length)))) (l ++ zKeptLog (r.1 + (23 + l.length + 1)))) :=
    (zsQ_of (k := 21) rfl (zob_of (k := 23 + l.length) (fs := [.ref (r.1 + (23 + l.length + 1)), .int (-1)]) (by
      rw [← zmz_app, ← zmz_len (r := r) (N := N) (A := A) (f1 := f1) (f2 := f2) (f3 := f3) (l := l), List.getElem?_append_right (Nat.le_refl _), Nat.sub_self]
      rfl)) (by decide) hj (by decide)).trans rfl
  refine (E_X5_init_172 ..).trans ?_
  simp only [o0, n1, Option.bind_some, nI_of0, if_pos (nI_lt hj (show 3 < 2 ^ 31 by decide)), zmz_len, zmz_app, ei, zcV_some]
  rw [show ([.inr (.inr (2, [.ref (r.1 + (23 + l.length + 1)), .int (-1)])), .inl (1098, fun _ => 0)] : zH) = zKeptLog (r.1 + (23 + l.length + 1)) from rfl, eq, Option.bind_some, nI_1]
theorem i_e112 {N A : zBr} {f1 f2 f3 : Nat → Option Nat} {l : zH} : zev r i_X5_init 112 [some (.ref (r.1 + 0)), some (.int (nI 6))] [] (zmz r N A f1 f2 f3 l) = zev r i_X5_init 142 [some (.ref (r.1 + 0)), some (.int (nI 0))] [] (zmz r N A f1 f2 f3 l) := by
  have o0 : zgR r (zmz r N A f1 f2 f3 l) (r.1 + 0) 5 0 = some (r.1 + 1) := zgR_of (k := 0) rfl rfl
  have n1 : zaN r (zmz r N A f1 f2 f3 l) (r.1 + 1) = some 6 := zaNq_of (k := 1) rfl (by decide)
  refine (E_X5_init_112 ..).trans ?_
  simp only [o0, n1, Option.bind_some, nI_of0, if_neg (show ¬ nI 6 < nI 6 by decide)]
  rfl
theorem i_e142 {N A : zBr} {f1 f2 f3 : Nat → Option Nat} {l : zH} : zev r i_X5_init 142 [some (.ref (r.1 + 0)), some (.int (nI 4))] [] (zmz r N A f1 f2 f3 l) = zev r i_X5_init 172 [some (.ref (r.1 + 0)), some (.int (nI 0))] [] (zmz r N A f1 f2 f3 l) := by
  have o0 : zgR r (zmz r N A f1 f2 f3 l) (r.1 + 0) 5 1 = some (r.1 + 2) := zgR_of (k := 0) rfl rfl
  have n1 : zaN r (zmz r N A f1 f2 f3 l) (r.1 + 2) = some 4 := zaNq_of (k := 2) rfl (by decide)
  refine (E_X5_init_142 ..).trans ?_
  simp only [o0, n1, Option.bind_some, nI_of0, if_neg (show ¬ nI 4 < nI 4 by decide)]
  rfl
theorem i_e172 {N A : zBr} {f1 f2 f3 : Nat → Option Nat} {l : zH} : zev r i_X5_init 172 [some (.ref (r.1 + 0)), some (.int (nI 3))] [] (zmz r N A f1 f2 f3 l) = some (none, zmz r N A f1 f2 f3 l) := by
  have o0 : zgR r (zmz r N A f1 f2 f3 l) (r.1 + 0) 5 6 = some (r.1 + 21) := zgR_of (k := 0) rfl rfl
  have n1 : zaN r (zmz r N A f1 f2 f3 l) (r.1 + 21) = some 3 := zaNq_of (k := 21) rfl (by decide)
  refine (E_X5_init_172 ..).trans ?_
  simp only [o0, n1, Option.bind_some, nI_of0, if_neg (show ¬ nI 3 < nI 3 by decide)]
/-- the rows, the texts, the kept decks -/
def zT5 (r : zE) : zH := [
  .inr (.inr (4, [.ref (r.1 + 24), .int (-1)])), .inl (60, fun _ => 0), .inr (.inr (4, [.ref (r.1 + 26), .int (-1)])), .inl (60, fun _ => 0), .inr (.inr (4, [.ref (r.1 + 28), .int (-1)])), .inl (60, fun _ => 0),
  .inr (.inr (4, [.ref (r.1 + 30), .int (-1)])), .inl (60, fun _ => 0), .inr (.inr (4, [.ref (r.1 + 32), .int (-1)])), .inl (60, fun _ => 0), .inr (.inr (4, [.ref (r.1 + 34), .int (-1)])), .inl (60, fun _ => 0),
  .inr (.inr (4, [.ref (r.1 + 36), .int (-1)])), .inl (60, fun _ => 0), .inr (.inr (4, [.ref (r.1 + 38), .int (-1)])), .inl (60, fun _ => 0), .inr (.inr (4, [.ref (r.1 + 40), .int (-1)])), .inl (60, fun _ => 0), .inr (.inr (4, [.ref (r.1 + 42), .int (-1)])), .inl (60, fun _ => 0),
  .inr (.inr (2, [.ref (r.1 + 44), .int (-1)])), .inl (1098, fun _ => 0), .inr (.inr (2, [.ref (r.1 + 46), .int (-1)])), .inl (1098, fun _ => 0), .inr (.inr (2, [.ref (r.1 + 48), .int (-1)])), .inl (1098, fun _ => 0)]
theorem rf_6 (a : Nat) : va_up (va_up (va_up (va_up (va_up (va_up (fun _ => none) 0 (some (a + 0))) 1 (some (a + 2))) 2 (some (a + 4))) 3 (some (a + 6))) 4 (some (a + 8))) 5 (some (a + 10)) = zrf a 6 := by
  funext i
  match i with
  | 0 => rfl
  | 1 => rfl
  | 2 => rfl
  | 3 => rfl
  | 4 => rfl
  | 5 => rfl
  | i + 6 =>
    rw [va_ne (by omega), va_ne (by omega), va_ne (by omega), va_ne (by omega), va_ne (by omega), va_ne (by omega)]
    unfold zrf
    rw [if_neg (by omega)]
theorem rf_4 (a : Nat) : va_up (va_up (va_up (va_up (fun _ => none) 0 (some (a + 0))) 1 (some (a + 2))) 2 (some (a + 4))) 3 (some (a + 6)) = zrf a 4 := by
  funext i
  match i with
  | 0 => rfl
  | 1 => rfl
  | 2 => rfl
  | 3 => rfl
  | i + 4 =>
    rw [va_ne (by omega), va_ne (by omega), va_ne (by omega), va_ne (by omega)]
    unfold zrf
    rw [if_neg (by omega)]
theorem rf_3 (a : Nat) : va_up (va_up (va_up (fun _ => none) 0 (some (a + 0))) 1 (some (a + 2))) 2 (some (a + 4)) = zrf a 3 := by
  funext i
  match i with
  | 0 => rfl
  | 1 => rfl
  | 2 => rfl
  | i + 3 =>
    rw [va_ne (by omega), va_ne (by omega), va_ne (by omega)]
    unfold zrf
    rw [if_neg (by omega)]
theorem i_B (N A : zBr) : zev r i_X5_init 112 [some (.ref (r.1 + 0)), some (.int (nI 0))] [] (zmz r N A (fun _ => none) (fun _ => none) (fun _ => none) []) = some (none, zmz r N A (zrf (r.1 + 23) 6) (zrf (r.1 + 35) 4) (zrf (r.1 + 43) 3) (zT5 r)) := by
  rw [← rf_6, ← rf_4, ← rf_3]
  refine (i_112 (j := 0) (by decide)).trans ((i_112 (j := 1) (by decide)).trans ((i_112 (j := 2) (by decide)).trans ((i_112 (j := 3) (by decide)).trans ((i_112 (j := 4) (by decide)).trans ((i_112 (j := 5) (by decide)).trans (i_e112.trans ?_))))))
  refine (i_142 (j := 0) (by decide)).trans ((i_142 (j := 1) (by decide)).trans ((i_142 (j := 2) (by decide)).trans ((i_142 (j := 3) (by decide)).trans (i_e142.trans ?_))))
  refine (i_172 (j := 0) (by decide)).trans ((i_172 (j := 1) (by decide)).trans ((i_172 (j := 2) (by decide)).trans (i_e172.trans ?_)))
  rfl
end INIT5
