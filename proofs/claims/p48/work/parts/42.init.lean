/-! THE CONSTRUCTORS -/
section INIT
variable {r : zE}
theorem bstep {α : Type} {q : Option α} {h : α} {K : α → Option zRes} {z : Option zRes} (e : q = some h) (k : K h = z) : q.bind K = z := by rw [e]; exact k
theorem vstep {q : Option zRes} {h : zH} {K : zH → Option zRes} {z : Option zRes} (e : q = some (none, h)) (k : K h = z) : zcV q K = z := by rw [e]; exact k
theorem app_at {g l : zH} {i : Nat} : (g ++ l)[g.length + i]? = l[i]? := by
  rw [List.getElem?_append_right (by omega), Nat.add_sub_cancel_left]
theorem app_set {g l : zH} {i : Nat} {c : zC} : (g ++ l).set (g.length + i) c = g ++ l.set i c := by
  rw [List.set_append_right _ _ (by omega), Nat.add_sub_cancel_left]
theorem app_A (g : zH) (c : zC) (l l2 : zH) : (g ++ c :: l) ++ l2 = g ++ c :: (l ++ l2) := by rw [List.append_assoc, List.cons_append]
theorem app_L (g l : zH) : (g ++ l).length = g.length + l.length := List.length_append
theorem rw_init (r : zE) (g : zH) : zev r i_X4_init 0 [some (.ref (r.1 + g.length))] [] (g ++ [.inr (.inr (4, [.null, .int 0]))]) = some (none, g ++ [.inr (.inr (4, [.ref (r.1 + (g.length + 1)), .int (-1)])), .inl (60, fun _ => 0)]) := by
  rw [E_X4_init_0, app_A]
  refine bstep (zpF_mid (Nat.le_of_ble_eq_true rfl)) (bstep (zpF_mid (Nat.le_of_ble_eq_true rfl)) ?_)
  rw [app_L]
  rfl
theorem lg_init (r : zE) (g : zH) (i : Int32) : zev r i_X2_init 0 [some (.ref (r.1 + g.length)), some (.int i)] [] (g ++ [.inr (.inr (2, [.null, .int 0]))]) = some (none, g ++ [.inr (.inr (2, [.ref (r.1 + (g.length + 1)), .int i])), .inl (1098, fun _ => 0)]) := by
  rw [E_X2_init_0, app_A]
  refine bstep (zpF_mid (Nat.le_of_ble_eq_true rfl)) (bstep (zpF_mid (Nat.le_of_ble_eq_true rfl)) ?_)
  rw [app_L]
  rfl
/-- nobody and nothing -/
def zC0 : zCs := (0, 0, fun _ => 0, fun _ => 0, fun _ => 0, fun _ => 0)
theorem zC0_k : zCk zC0 := ⟨by decide, by decide, by decide, fun h hh => absurd hh (Nat.not_lt_zero _), fun h hh => absurd hh (Nat.not_lt_zero _)⟩
theorem zCv_ap {C : zCs} {c : Nat} {h l : zH} (v : zCv r c C h) : zCv r c C (h ++ l) := by
  obtain ⟨a1, a2, a3, a4, a5, a6, a7, a8, a9, a10, a11⟩ := v
  exact ⟨zob_ap a1, zgI_ap a2, zgI_ap a3, zgR_ap a4, zgR_ap a5, zgR_ap a6, zgR_ap a7, fun j hj => zaI_ap (a8 j hj), fun j hj => zaI_ap (a9 j hj), fun j hj => zaI_ap (a10 j hj), fun j hj => zaI_ap (a11 j hj)⟩
def zB4 (r : zE) (g : zH) (B : zBr) : zH := g ++ [.inr (.inr (0, [.ref (r.1 + 3), .ref (r.1 + (g.length + 1)), .ref (r.1 + (g.length + 2)), .ref (r.1 + (g.length + 3)), .ref (r.1 + (g.length + 4))])), .inl (6, B.1), .inl (7, B.2.1), .inl (6, B.2.2.1), .inl (6, B.2.2.2)]
theorem zB4_at {g : zH} {B : zBr} {i : Nat} : (zB4 r g B)[g.length + i]? = ([.inr (.inr (0, [.ref (r.1 + 3), .ref (r.1 + (g.length + 1)), .ref (r.1 + (g.length + 2)), .ref (r.1 + (g.length + 3)), .ref (r.1 + (g.length + 4))])), .inl (6, B.1), .inl (7, B.2.1), .inl (6, B.2.2.1), .inl (6, B.2.2.2)] : zH)[i]? := app_at
theorem zB4_bx {g : zH} (hv : zCv r (r.1 + 3) zC0 g) : zBx r (r.1 + g.length) (r.1 + 3) zC0 (zB4 r g) := fun B =>
  ⟨zCv_ap hv, zob_of (zB4_at (i := 0)), zgR_of (zB4_at (i := 0)) rfl, zgR_of (zB4_at (i := 0)) rfl, zgR_of (zB4_at (i := 0)) rfl, zgR_of (zB4_at (i := 0)) rfl, zgR_of (zB4_at (i := 0)) rfl,
   fun j hj => zaI_of (zB4_at (i := 1)) hj (by decide), fun j hj => zaI_of (zB4_at (i := 2)) hj (by decide), fun j hj => zaI_of (zB4_at (i := 3)) hj (by decide), fun j hj => zaI_of (zB4_at (i := 4)) hj (by decide),
   fun j y hj => (zsI_of (zB4_at (i := 1)) hj (by decide)).trans (congrArg some app_set), fun j y hj => (zsI_of (zB4_at (i := 2)) hj (by decide)).trans (congrArg some app_set), fun j y hj => (zsI_of (zB4_at (i := 3)) hj (by decide)).trans (congrArg some app_set), fun j y hj => (zsI_of (zB4_at (i := 4)) hj (by decide)).trans (congrArg some app_set),
   zaN_of (zB4_at (i := 1)), zaN_of (zB4_at (i := 2))⟩
theorem bt_init {g : zH} (hv : zCv r (r.1 + 3) zC0 g) (hf : zgR r g (r.1 + 3) 1 4 = some (r.1 + 6)) (ha : g[6]? = some (.inl (6, fun _ => 0))) : ∃ B : zBr, zev r i_X0_init 0 [some (.ref (r.1 + g.length)), some (.ref (r.1 + 3))] [] (g ++ [.inr (.inr (0, [.null, .null, .null, .null, .null]))]) = some (none, zB4 r g B) := by
  have bx := zB4_bx hv
  obtain ⟨H', G', e1, -⟩ := b_first bx zC0_k (B := (fun _ => 0, fun _ => 0, va_cpy (fun _ => 0) (fun _ => 0) 0 0 6, fun i => if i < 6 then 0 else 0))
  refine ⟨(H', G', va_cpy (fun _ => 0) (fun _ => 0) 0 0 6, fun i => if i < 6 then 0 else 0), (E_X0_init_0 ..).trans ?_⟩
  have P : ∀ (v0 v1 v2 v3 v4 : Value) (l : zH) (f : Nat) (v : Value), f < 5 → zpF r (g ++ .inr (.inr (0, [v0, v1, v2, v3, v4])) :: l) (r.1 + g.length) 0 f v = some (g ++ .inr (.inr (0, [v0, v1, v2, v3, v4].set f v)) :: l) := fun v0 v1 v2 v3 v4 l f v hf => zpF_mid hf
  rw [app_A, P _ _ _ _ _ _ 1 _ (by decide), Option.bind_some]
  dsimp only [List.set]
  simp only [app_L, List.nil_append, List.cons_append, List.length_cons, List.length_nil, Nat.reduceAdd, Nat.zero_add]
  rw [app_A, P _ _ _ _ _ _ 2 _ (by decide), Option.bind_some]
  dsimp only [List.set]
  simp only [app_L, List.nil_append, List.cons_append, List.length_cons, List.length_nil, Nat.reduceAdd, Nat.zero_add]
  rw [app_A, P _ _ _ _ _ _ 3 _ (by decide), Option.bind_some]
  dsimp only [List.set]
  simp only [app_L, List.nil_append, List.cons_append, List.length_cons, List.length_nil, Nat.reduceAdd, Nat.zero_add]
  rw [app_A, P _ _ _ _ _ _ 4 _ (by decide), Option.bind_some]
  dsimp only [List.set]
  simp only [app_L, List.nil_append, List.cons_append, List.length_cons, List.length_nil, Nat.reduceAdd, Nat.zero_add]
  refine (if_pos (show zob r _ (r.1 + g.length) 0 = true from zob_of (k := g.length) (by rw [List.getElem?_append_right (Nat.le_refl _), Nat.sub_self]; rfl))).trans ?_
  refine vstep ((E_X0_begin_0 ..).trans (bstep (h := zB4 r g (fun _ => 0, fun _ => 0, fun _ => 0, fun _ => 0)) (zpF_mid (Nat.le_of_ble_eq_true rfl)) ?_)) rfl
  have p1 : zcp r (zB4 r g (fun _ => 0, fun _ => 0, fun _ => 0, fun _ => 0)) (r.1 + 6) 0 (r.1 + (g.length + 3)) 0 6 = some (zB4 r g (fun _ => 0, fun _ => 0, va_cpy (fun _ => 0) (fun _ => 0) 0 0 6, fun _ => 0)) :=
    (zcp_of (r := r) (h := zB4 r g (fun _ => 0, fun _ => 0, fun _ => 0, fun _ => 0)) (k := 6) (k1 := g.length + 3) (n0 := 6) (n1 := 6) (sp := 0) (dp := 0) (n := 6) (f := fun _ => 0) (g := fun _ => 0) (get_app ha) (zB4_at (i := 3)) (by decide) (by decide) (by decide) (by decide)).trans (congrArg some app_set)
  have p2 := z_fill r (n := 6) (a := r.1 + (g.length + 4)) (fun f => zB4 r g (fun _ => 0, fun _ => 0, va_cpy (fun _ => 0) (fun _ => 0) 0 0 6, f)) (by decide) (fun f => zaN_of (zB4_at (i := 4))) (fun f j y hj => (zsI_of (zB4_at (i := 4)) hj (by decide)).trans (congrArg some app_set)) (fun _ => 0) 0
  refine bstep (h := r.1 + 6) (zgR_ap hf) (bstep (h := r.1 + (g.length + 3)) (zgR_of (zB4_at (i := 0)) rfl) (bstep p1 (bstep (h := r.1 + (g.length + 4)) (zgR_of (zB4_at (i := 0)) rfl) (vstep p2 ?_))))
  rw [if_pos (bx _).2.1]
  exact vstep e1 rfl
end INIT
/-! THE CLASS'S CONSTRUCTOR -/
section INIT5
variable {r : zE}
def zCr (r : zE) : zC := .inr (.inr (1, [.int 0, .int 0, .ref (r.1 + 4), .ref (r.1 + 5), .ref (r.1 + 6), .ref (r.1 + 7), .ref (r.1 + 8)]))
/-- the class's object and what it has at first, behind it the rows, texts, kept decks -/
def zmz (r : zE) (N A : zBr) (f1 f2 f3 : Nat → Option Nat) (l : zH) : zH := [
  .inr (.inr (5, [.ref (r.1 + 1), .ref (r.1 + 2), .ref (r.1 + 3), .ref (r.1 + 9), .ref (r.1 + 14), .ref (r.1 + 19), .ref (r.1 + 21), .int 0, .long 0, .long 1, .int 0, .ref (r.1 + 22)])),
  .inr (.inl (4, 6, f1)), .inr (.inl (4, 4, f2)), zCr r, .inl (7, fun _ => 0), .inl (6, fun _ => 0), .inl (6, fun _ => 0), .inl (6, fun _ => 0), .inl (6, fun _ => 0),
  .inr (.inr (0, [.ref (r.1 + 3), .ref (r.1 + 10), .ref (r.1 + 11), .ref (r.1 + 12), .ref (r.1 + 13)])), .inl (6, N.1), .inl (7, N.2.1), .inl (6, N.2.2.1), .inl (6, N.2.2.2),
  .inr (.inr (0, [.ref (r.1 + 3), .ref (r.1 + 15), .ref (r.1 + 16), .ref (r.1 + 17), .ref (r.1 + 18)])), .inl (6, A.1), .inl (7, A.2.1), .inl (6, A.2.2.1), .inl (6, A.2.2.2),
  .inr (.inr (2, [.ref (r.1 + 20), .int 0])), .inl (1098, fun _ => 0), .inr (.inl (2, 3, f3)), .inl (6, fun _ => 0)] ++ l
theorem zmz_app {N A : zBr} {f1 f2 f3 : Nat → Option Nat} {l l2 : zH} : zmz r N A f1 f2 f3 l ++ l2 = zmz r N A f1 f2 f3 (l ++ l2) := List.append_assoc _ _ _
theorem zmz_len {N A : zBr} {f1 f2 f3 : Nat → Option Nat} {l : zH} : (zmz r N A f1 f2 f3 l).length = 23 + l.length := by
  unfold zmz
  rw [List.length_append]
  rfl
theorem zsQ_of {h : zH} {k ci n j v : Nat} {f : Nat → Option Nat} (e : h[k]? = some (.inr (.inl (ci, n, f)))) (ho : zob r h v ci = true) (hc : ci = 4 ∨ ci = 2) (hj : j < n) (hn : n < 2 ^ 31) : zsQ r h (r.1 + k) (nI j) v = some (h.set k (.inr (.inl (ci, n, va_up f j (some v))))) := by
  simp only [zsQ, zget_add, e, if_pos (show zob r h v ci = true ∧ (ci = 4 ∨ ci = 2) from ⟨ho, hc⟩), zix_nI hj hn, Option.map_some, Nat.add_sub_cancel_left]
theorem zpF_0 {fs : List Value} {l : zH} {f : Nat} {v : Value} (hl : f < fs.length) : zpF r (.inr (.inr (5, fs)) :: l) (r.1 + 0) 5 f v = some (.inr (.inr (5, fs.set f v)) :: l) := zpF_of (k := 0) rfl hl
def zRwC (a : Nat) : zH := [.inr (.inr (4, [.ref a, .int (-1)])), .inl (60, fun _ => 0)]
def zKeptLog (a : Nat) : zH := [.inr (.inr (2, [.ref a, .int (-1)])), .inl (1098, fun _ => 0)]
theorem i_112 {N A : zBr} {f1 f2 f3 : Nat → Option Nat} {l : zH} {j : Nat} (hj : j < 6) : zev r i_X5_init 112 [some (.ref (r.1 + 0)), some (.int (nI j))] [] (zmz r N A f1 f2 f3 l) = zev r i_X5_init 112 [some (.ref (r.1 + 0)), some (.int (nI (j + 1)))] [] (zmz r N A (va_up f1 j (some (r.1 + (23 + l.length)))) f2 f3 (l ++ zRwC (r.1 + (23 + l.length + 1)))) := by
  have o0 : ∀ f1 l, zgR r (zmz r N A f1 f2 f3 l) (r.1 + 0) 5 0 = some (r.1 + 1) := fun f1 l => zgR_of (k := 0) rfl rfl
  have n1 : ∀ f1 l, zaN r (zmz r N A f1 f2 f3 l) (r.1 + 1) = some 6 := fun f1 l => zaNq_of (k := 1) rfl (by decide)
  have ei := rw_init r (zmz r N A f1 f2 f3 l)
  rw [zmz_app, zmz_app, zmz_len] at ei
  have eq : zsQ r (zmz r N A f1 f2 f3 (l ++ zRwC (r.1 + (23 + l.length + 1)))) (r.1 + 1) (nI j) (r.1 + (23 + l.length)) = some (zmz r N A (va_up f1 j (some (r.1 + (23 + l.length)))) f2 f3 (l ++ zRwC (r.1 + (23 + l.length + 1)))) :=
    (zsQ_of (k := 1) rfl (zob_of (k := 23 + l.length) (fs := [.ref (r.1 + (23 + l.length + 1)), .int (-1)]) (by
      rw [← zmz_app, ← zmz_len (r := r) (N := N) (A := A) (f1 := f1) (f2 := f2) (f3 := f3) (l := l), List.getElem?_append_right (Nat.le_refl _), Nat.sub_self]
      rfl)) (by decide) hj (by decide)).trans rfl
  refine (E_X5_init_112 ..).trans ?_
  simp only [o0, n1, Option.bind_some, nI_of0, if_pos (nI_lt hj (show 6 < 2 ^ 31 by decide)), zmz_len, zmz_app, ei, zcV_some]
  rw [show ([.inr (.inr (4, [.ref (r.1 + (23 + l.length + 1)), .int (-1)])), .inl (60, fun _ => 0)] : zH) = zRwC (r.1 + (23 + l.length + 1)) from rfl, eq, Option.bind_some, nI_1]
theorem i_142 {N A : zBr} {f1 f2 f3 : Nat → Option Nat} {l : zH} {j : Nat} (hj : j < 4) : zev r i_X5_init 142 [some (.ref (r.1 + 0)), some (.int (nI j))] [] (zmz r N A f1 f2 f3 l) = zev r i_X5_init 142 [some (.ref (r.1 + 0)), some (.int (nI (j + 1)))] [] (zmz r N A f1 (va_up f2 j (some (r.1 + (23 + l.length)))) f3 (l ++ zRwC (r.1 + (23 + l.length + 1)))) := by
  have o0 : ∀ f2 l, zgR r (zmz r N A f1 f2 f3 l) (r.1 + 0) 5 1 = some (r.1 + 2) := fun f2 l => zgR_of (k := 0) rfl rfl
  have n1 : ∀ f2 l, zaN r (zmz r N A f1 f2 f3 l) (r.1 + 2) = some 4 := fun f2 l => zaNq_of (k := 2) rfl (by decide)
  have ei := rw_init r (zmz r N A f1 f2 f3 l)
  rw [zmz_app, zmz_app, zmz_len] at ei
  have eq : zsQ r (zmz r N A f1 f2 f3 (l ++ zRwC (r.1 + (23 + l.length + 1)))) (r.1 + 2) (nI j) (r.1 + (23 + l.length)) = some (zmz r N A f1 (va_up f2 j (some (r.1 + (23 + l.length)))) f3 (l ++ zRwC (r.1 + (23 + l.length + 1)))) :=
    (zsQ_of (k := 2) rfl (zob_of (k := 23 + l.length) (fs := [.ref (r.1 + (23 + l.length + 1)), .int (-1)]) (by
      rw [← zmz_app, ← zmz_len (r := r) (N := N) (A := A) (f1 := f1) (f2 := f2) (f3 := f3) (l := l), List.getElem?_append_right (Nat.le_refl _), Nat.sub_self]
      rfl)) (by decide) hj (by decide)).trans rfl
  refine (E_X5_init_142 ..).trans ?_
  simp only [o0, n1, Option.bind_some, nI_of0, if_pos (nI_lt hj (show 4 < 2 ^ 31 by decide)), zmz_len, zmz_app, ei, zcV_some]
  rw [show ([.inr (.inr (4, [.ref (r.1 + (23 + l.length + 1)), .int (-1)])), .inl (60, fun _ => 0)] : zH) = zRwC (r.1 + (23 + l.length + 1)) from rfl, eq, Option.bind_some, nI_1]
theorem i_172 {N A : zBr} {f1 f2 f3 : Nat → Option Nat} {l : zH} {j : Nat} (hj : j < 3) : zev r i_X5_init 172 [some (.ref (r.1 + 0)), some (.int (nI j))] [] (zmz r N A f1 f2 f3 l) = zev r i_X5_init 172 [some (.ref (r.1 + 0)), some (.int (nI (j + 1)))] [] (zmz r N A f1 f2 (va_up f3 j (some (r.1 + (23 + l.length)))) (l ++ zKeptLog (r.1 + (23 + l.length + 1)))) := by
  have o0 : ∀ f3 l, zgR r (zmz r N A f1 f2 f3 l) (r.1 + 0) 5 6 = some (r.1 + 21) := fun f3 l => zgR_of (k := 0) rfl rfl
  have n1 : ∀ f3 l, zaN r (zmz r N A f1 f2 f3 l) (r.1 + 21) = some 3 := fun f3 l => zaNq_of (k := 21) rfl (by decide)
  have ei := lg_init r (zmz r N A f1 f2 f3 l) (-1)
  rw [zmz_app, zmz_app, zmz_len] at ei
  have eq : zsQ r (zmz r N A f1 f2 f3 (l ++ zKeptLog (r.1 + (23 + l.length + 1)))) (r.1 + 21) (nI j) (r.1 + (23 + l.length)) = some (zmz r N A f1 f2 (va_up f3 j (some (r.1 + (23 + l.length)))) (l ++ zKeptLog (r.1 + (23 + l.length + 1)))) :=
    (zsQ_of (k := 21) rfl (zob_of (k := 23 + l.length) (fs := [.ref (r.1 + (23 + l.length + 1)), .int (-1)]) (by
      rw [← zmz_app, ← zmz_len (r := r) (N := N) (A := A) (f1 := f1) (f2 := f2) (f3 := f3) (l := l), List.getElem?_append_right (Nat.le_refl _), Nat.sub_self]
      rfl)) (by decide) hj (by decide)).trans rfl
  refine (E_X5_init_172 ..).trans ?_
  simp only [o0, n1, Option.bind_some, nI_of0, if_pos (nI_lt hj (show 3 < 2 ^ 31 by decide)), zmz_len, zmz_app, ei, zcV_some]
  rw [show ([.inr (.inr (2, [.ref (r.1 + (23 + l.length + 1)), .int (-1)])), .inl (1098, fun _ => 0)] : zH) = zKeptLog (r.1 + (23 + l.length + 1)) from rfl, eq, Option.bind_some, nI_1]
theorem i_e112 {N A : zBr} {f1 f2 f3 : Nat → Option Nat} {l : zH} : zev r i_X5_init 112 [some (.ref (r.1 + 0)), some (.int (nI 6))] [] (zmz r N A f1 f2 f3 l) = zev r i_X5_init 142 [some (.ref (r.1 + 0)), some (.int (nI 0))] [] (zmz r N A f1 f2 f3 l) := by
  have o0 : zgR r (zmz r N A f1 f2 f3 l) (r.1 + 0) 5 0 = some (r.1 + 1) := zgR_of (k := 0) rfl rfl
  have n1 : zaN r (zmz r N A f1 f2 f3 l) (r.1 + 1) = some 6 := zaNq_of (k := 1) rfl (by decide)
  refine (E_X5_init_112 ..).trans ?_
  simp only [o0, n1, Option.bind_some, nI_of0, if_neg (show ¬ nI 6 < nI 6 by decide)]
  rfl
theorem i_e142 {N A : zBr} {f1 f2 f3 : Nat → Option Nat} {l : zH} : zev r i_X5_init 142 [some (.ref (r.1 + 0)), some (.int (nI 4))] [] (zmz r N A f1 f2 f3 l) = zev r i_X5_init 172 [some (.ref (r.1 + 0)), some (.int (nI 0))] [] (zmz r N A f1 f2 f3 l) := by
  have o0 : zgR r (zmz r N A f1 f2 f3 l) (r.1 + 0) 5 1 = some (r.1 + 2) := zgR_of (k := 0) rfl rfl
  have n1 : zaN r (zmz r N A f1 f2 f3 l) (r.1 + 2) = some 4 := zaNq_of (k := 2) rfl (by decide)
  refine (E_X5_init_142 ..).trans ?_
  simp only [o0, n1, Option.bind_some, nI_of0, if_neg (show ¬ nI 4 < nI 4 by decide)]
  rfl
theorem i_e172 {N A : zBr} {f1 f2 f3 : Nat → Option Nat} {l : zH} : zev r i_X5_init 172 [some (.ref (r.1 + 0)), some (.int (nI 3))] [] (zmz r N A f1 f2 f3 l) = some (none, zmz r N A f1 f2 f3 l) := by
  have o0 : zgR r (zmz r N A f1 f2 f3 l) (r.1 + 0) 5 6 = some (r.1 + 21) := zgR_of (k := 0) rfl rfl
  have n1 : zaN r (zmz r N A f1 f2 f3 l) (r.1 + 21) = some 3 := zaNq_of (k := 21) rfl (by decide)
  refine (E_X5_init_172 ..).trans ?_
  simp only [o0, n1, Option.bind_some, nI_of0, if_neg (show ¬ nI 3 < nI 3 by decide)]
/-- the rows, the texts, the kept decks -/
def zT5 (r : zE) : zH := [
  .inr (.inr (4, [.ref (r.1 + 24), .int (-1)])), .inl (60, fun _ => 0), .inr (.inr (4, [.ref (r.1 + 26), .int (-1)])), .inl (60, fun _ => 0), .inr (.inr (4, [.ref (r.1 + 28), .int (-1)])), .inl (60, fun _ => 0),
  .inr (.inr (4, [.ref (r.1 + 30), .int (-1)])), .inl (60, fun _ => 0), .inr (.inr (4, [.ref (r.1 + 32), .int (-1)])), .inl (60, fun _ => 0), .inr (.inr (4, [.ref (r.1 + 34), .int (-1)])), .inl (60, fun _ => 0),
  .inr (.inr (4, [.ref (r.1 + 36), .int (-1)])), .inl (60, fun _ => 0), .inr (.inr (4, [.ref (r.1 + 38), .int (-1)])), .inl (60, fun _ => 0), .inr (.inr (4, [.ref (r.1 + 40), .int (-1)])), .inl (60, fun _ => 0), .inr (.inr (4, [.ref (r.1 + 42), .int (-1)])), .inl (60, fun _ => 0),
  .inr (.inr (2, [.ref (r.1 + 44), .int (-1)])), .inl (1098, fun _ => 0), .inr (.inr (2, [.ref (r.1 + 46), .int (-1)])), .inl (1098, fun _ => 0), .inr (.inr (2, [.ref (r.1 + 48), .int (-1)])), .inl (1098, fun _ => 0)]
theorem rf_6 (a : Nat) : va_up (va_up (va_up (va_up (va_up (va_up (fun _ => none) 0 (some (a + 0))) 1 (some (a + 2))) 2 (some (a + 4))) 3 (some (a + 6))) 4 (some (a + 8))) 5 (some (a + 10)) = zrf a 6 := by
  funext i
  match i with
  | 0 => rfl
  | 1 => rfl
  | 2 => rfl
  | 3 => rfl
  | 4 => rfl
  | 5 => rfl
  | i + 6 =>
    rw [va_ne (by omega), va_ne (by omega), va_ne (by omega), va_ne (by omega), va_ne (by omega), va_ne (by omega)]
    unfold zrf
    rw [if_neg (by omega)]
theorem rf_4 (a : Nat) : va_up (va_up (va_up (va_up (fun _ => none) 0 (some (a + 0))) 1 (some (a + 2))) 2 (some (a + 4))) 3 (some (a + 6)) = zrf a 4 := by
  funext i
  match i with
  | 0 => rfl
  | 1 => rfl
  | 2 => rfl
  | 3 => rfl
  | i + 4 =>
    rw [va_ne (by omega), va_ne (by omega), va_ne (by omega), va_ne (by omega)]
    unfold zrf
    rw [if_neg (by omega)]
theorem rf_3 (a : Nat) : va_up (va_up (va_up (fun _ => none) 0 (some (a + 0))) 1 (some (a + 2))) 2 (some (a + 4)) = zrf a 3 := by
  funext i
  match i with
  | 0 => rfl
  | 1 => rfl
  | 2 => rfl
  | i + 3 =>
    rw [va_ne (by omega), va_ne (by omega), va_ne (by omega)]
    unfold zrf
    rw [if_neg (by omega)]
theorem i_B (N A : zBr) : zev r i_X5_init 112 [some (.ref (r.1 + 0)), some (.int (nI 0))] [] (zmz r N A (fun _ => none) (fun _ => none) (fun _ => none) []) = some (none, zmz r N A (zrf (r.1 + 23) 6) (zrf (r.1 + 35) 4) (zrf (r.1 + 43) 3) (zT5 r)) := by
  rw [← rf_6, ← rf_4, ← rf_3]
  refine (i_112 (j := 0) (by decide)).trans ((i_112 (j := 1) (by decide)).trans ((i_112 (j := 2) (by decide)).trans ((i_112 (j := 3) (by decide)).trans ((i_112 (j := 4) (by decide)).trans ((i_112 (j := 5) (by decide)).trans (i_e112.trans ?_))))))
  refine (i_142 (j := 0) (by decide)).trans ((i_142 (j := 1) (by decide)).trans ((i_142 (j := 2) (by decide)).trans ((i_142 (j := 3) (by decide)).trans (i_e142.trans ?_))))
  refine (i_172 (j := 0) (by decide)).trans ((i_172 (j := 1) (by decide)).trans ((i_172 (j := 2) (by decide)).trans (i_e172.trans ?_)))
  rfl
end INIT5
section INIT6
variable {r : zE}
theorem bt_of (g : zH) (e3 : g[3]? = some (zCr r)) (e6 : g[6]? = some (.inl (6, fun _ => 0))) : ∃ B : zBr, zev r i_X0_init 0 [some (.ref (r.1 + g.length)), some (.ref (r.1 + 3))] [] (g ++ [.inr (.inr (0, [.null, .null, .null, .null, .null]))]) = some (none, zB4 r g B) :=
  bt_init ⟨zob_of e3, zgI_of e3 rfl, zgI_of e3 rfl, zgR_of e3 rfl, zgR_of e3 rfl, zgR_of e3 rfl, zgR_of e3 rfl, fun j hj => absurd hj (Nat.not_lt_zero _), fun j hj => absurd hj (Nat.not_lt_zero _), fun j hj => absurd hj (Nat.not_lt_zero _), fun j hj => absurd hj (Nat.not_lt_zero _)⟩ (zgR_of e3 rfl) e6
theorem i_A (r : zE) : ∃ N A : zBr, zev r i_X5_init 0 [some (.ref (r.1 + 0)), none] [] [.inr (.inr (5, [.null, .null, .null, .null, .null, .null, .null, .int 0, .long 0, .long 0, .int 0, .null]))] = some (none, zmz r N A (zrf (r.1 + 23) 6) (zrf (r.1 + 35) 4) (zrf (r.1 + 43) 3) (zT5 r)) := by
  obtain ⟨N, eN⟩ := bt_of (r := r) [.inr (.inr (5, [.ref (r.1 + 1), .ref (r.1 + 2), .ref (r.1 + 3), .null, .null, .null, .null, .int 0, .long 0, .long 0, .int 0, .null])), .inr (.inl (4, 6, fun _ => none)), .inr (.inl (4, 4, fun _ => none)), zCr r, .inl (7, fun _ => 0), .inl (6, fun _ => 0), .inl (6, fun _ => 0), .inl (6, fun _ => 0), .inl (6, fun _ => 0)] rfl rfl
  obtain ⟨A, eA⟩ := bt_of (r := r) [.inr (.inr (5, [.ref (r.1 + 1), .ref (r.1 + 2), .ref (r.1 + 3), .ref (r.1 + 9), .null, .null, .null, .int 0, .long 0, .long 0, .int 0, .null])), .inr (.inl (4, 6, fun _ => none)), .inr (.inl (4, 4, fun _ => none)), zCr r, .inl (7, fun _ => 0), .inl (6, fun _ => 0), .inl (6, fun _ => 0), .inl (6, fun _ => 0), .inl (6, fun _ => 0), .inr (.inr (0, [.ref (r.1 + 3), .ref (r.1 + 10), .ref (r.1 + 11), .ref (r.1 + 12), .ref (r.1 + 13)])), .inl (6, N.1), .inl (7, N.2.1), .inl (6, N.2.2.1), .inl (6, N.2.2.2)] rfl rfl
  refine ⟨N, A, (E_X5_init_0 ..).trans ?_⟩
  refine bstep (h := [.inr (.inr (5, [.ref (r.1 + 1), .null, .null, .null, .null, .null, .null, .int 0, .long 0, .long 0, .int 0, .null])), .inr (.inl (4, 6, fun _ => none))]) (zpF_0 (Nat.le_of_ble_eq_true rfl)) ?_
  refine bstep (h := [.inr (.inr (5, [.ref (r.1 + 1), .ref (r.1 + 2), .null, .null, .null, .null, .null, .int 0, .long 0, .long 0, .int 0, .null])), .inr (.inl (4, 6, fun _ => none)), .inr (.inl (4, 4, fun _ => none))]) (zpF_0 (Nat.le_of_ble_eq_true rfl)) ?_
  refine vstep (h := [.inr (.inr (5, [.ref (r.1 + 1), .ref (r.1 + 2), .null, .null, .null, .null, .null, .int 0, .long 0, .long 0, .int 0, .null])), .inr (.inl (4, 6, fun _ => none)), .inr (.inl (4, 4, fun _ => none)), zCr r, .inl (7, fun _ => 0), .inl (6, fun _ => 0), .inl (6, fun _ => 0), .inl (6, fun _ => 0), .inl (6, fun _ => 0)]) (cr_init r _) ?_
  refine bstep (h := [.inr (.inr (5, [.ref (r.1 + 1), .ref (r.1 + 2), .ref (r.1 + 3), .null, .null, .null, .null, .int 0, .long 0, .long 0, .int 0, .null])), .inr (.inl (4, 6, fun _ => none)), .inr (.inl (4, 4, fun _ => none)), zCr r, .inl (7, fun _ => 0), .inl (6, fun _ => 0), .inl (6, fun _ => 0), .inl (6, fun _ => 0), .inl (6, fun _ => 0)]) (zpF_0 (Nat.le_of_ble_eq_true rfl)) ?_
  refine bstep (h := r.1 + 3) (zgR_of (k := 0) rfl rfl) ?_
  refine vstep (h := [.inr (.inr (5, [.ref (r.1 + 1), .ref (r.1 + 2), .ref (r.1 + 3), .null, .null, .null, .null, .int 0, .long 0, .long 0, .int 0, .null])), .inr (.inl (4, 6, fun _ => none)), .inr (.inl (4, 4, fun _ => none)), zCr r, .inl (7, fun _ => 0), .inl (6, fun _ => 0), .inl (6, fun _ => 0), .inl (6, fun _ => 0), .inl (6, fun _ => 0), .inr (.inr (0, [.ref (r.1 + 3), .ref (r.1 + 10), .ref (r.1 + 11), .ref (r.1 + 12), .ref (r.1 + 13)])), .inl (6, N.1), .inl (7, N.2.1), .inl (6, N.2.2.1), .inl (6, N.2.2.2)]) eN ?_
  refine bstep (h := [.inr (.inr (5, [.ref (r.1 + 1), .ref (r.1 + 2), .ref (r.1 + 3), .ref (r.1 + 9), .null, .null, .null, .int 0, .long 0, .long 0, .int 0, .null])), .inr (.inl (4, 6, fun _ => none)), .inr (.inl (4, 4, fun _ => none)), zCr r, .inl (7, fun _ => 0), .inl (6, fun _ => 0), .inl (6, fun _ => 0), .inl (6, fun _ => 0), .inl (6, fun _ => 0), .inr (.inr (0, [.ref (r.1 + 3), .ref (r.1 + 10), .ref (r.1 + 11), .ref (r.1 + 12), .ref (r.1 + 13)])), .inl (6, N.1), .inl (7, N.2.1), .inl (6, N.2.2.1), .inl (6, N.2.2.2)]) (zpF_0 (Nat.le_of_ble_eq_true rfl)) ?_
  refine bstep (h := r.1 + 3) (zgR_of (k := 0) rfl rfl) ?_
  refine vstep (h := [.inr (.inr (5, [.ref (r.1 + 1), .ref (r.1 + 2), .ref (r.1 + 3), .ref (r.1 + 9), .null, .null, .null, .int 0, .long 0, .long 0, .int 0, .null])), .inr (.inl (4, 6, fun _ => none)), .inr (.inl (4, 4, fun _ => none)), zCr r, .inl (7, fun _ => 0), .inl (6, fun _ => 0), .inl (6, fun _ => 0), .inl (6, fun _ => 0), .inl (6, fun _ => 0), .inr (.inr (0, [.ref (r.1 + 3), .ref (r.1 + 10), .ref (r.1 + 11), .ref (r.1 + 12), .ref (r.1 + 13)])), .inl (6, N.1), .inl (7, N.2.1), .inl (6, N.2.2.1), .inl (6, N.2.2.2), .inr (.inr (0, [.ref (r.1 + 3), .ref (r.1 + 15), .ref (r.1 + 16), .ref (r.1 + 17), .ref (r.1 + 18)])), .inl (6, A.1), .inl (7, A.2.1), .inl (6, A.2.2.1), .inl (6, A.2.2.2)]) eA ?_
  refine bstep (h := [.inr (.inr (5, [.ref (r.1 + 1), .ref (r.1 + 2), .ref (r.1 + 3), .ref (r.1 + 9), .ref (r.1 + 14), .null, .null, .int 0, .long 0, .long 0, .int 0, .null])), .inr (.inl (4, 6, fun _ => none)), .inr (.inl (4, 4, fun _ => none)), zCr r, .inl (7, fun _ => 0), .inl (6, fun _ => 0), .inl (6, fun _ => 0), .inl (6, fun _ => 0), .inl (6, fun _ => 0), .inr (.inr (0, [.ref (r.1 + 3), .ref (r.1 + 10), .ref (r.1 + 11), .ref (r.1 + 12), .ref (r.1 + 13)])), .inl (6, N.1), .inl (7, N.2.1), .inl (6, N.2.2.1), .inl (6, N.2.2.2), .inr (.inr (0, [.ref (r.1 + 3), .ref (r.1 + 15), .ref (r.1 + 16), .ref (r.1 + 17), .ref (r.1 + 18)])), .inl (6, A.1), .inl (7, A.2.1), .inl (6, A.2.2.1), .inl (6, A.2.2.2)]) (zpF_0 (Nat.le_of_ble_eq_true rfl)) ?_
  refine vstep (h := [.inr (.inr (5, [.ref (r.1 + 1), .ref (r.1 + 2), .ref (r.1 + 3), .ref (r.1 + 9), .ref (r.1 + 14), .null, .null, .int 0, .long 0, .long 0, .int 0, .null])), .inr (.inl (4, 6, fun _ => none)), .inr (.inl (4, 4, fun _ => none)), zCr r, .inl (7, fun _ => 0), .inl (6, fun _ => 0), .inl (6, fun _ => 0), .inl (6, fun _ => 0), .inl (6, fun _ => 0), .inr (.inr (0, [.ref (r.1 + 3), .ref (r.1 + 10), .ref (r.1 + 11), .ref (r.1 + 12), .ref (r.1 + 13)])), .inl (6, N.1), .inl (7, N.2.1), .inl (6, N.2.2.1), .inl (6, N.2.2.2), .inr (.inr (0, [.ref (r.1 + 3), .ref (r.1 + 15), .ref (r.1 + 16), .ref (r.1 + 17), .ref (r.1 + 18)])), .inl (6, A.1), .inl (7, A.2.1), .inl (6, A.2.2.1), .inl (6, A.2.2.2), .inr (.inr (2, [.ref (r.1 + 20), .int 0])), .inl (1098, fun _ => 0)]) (lg_init r _ 0) ?_
  refine bstep (h := [.inr (.inr (5, [.ref (r.1 + 1), .ref (r.1 + 2), .ref (r.1 + 3), .ref (r.1 + 9), .ref (r.1 + 14), .ref (r.1 + 19), .null, .int 0, .long 0, .long 0, .int 0, .null])), .inr (.inl (4, 6, fun _ => none)), .inr (.inl (4, 4, fun _ => none)), zCr r, .inl (7, fun _ => 0), .inl (6, fun _ => 0), .inl (6, fun _ => 0), .inl (6, fun _ => 0), .inl (6, fun _ => 0), .inr (.inr (0, [.ref (r.1 + 3), .ref (r.1 + 10), .ref (r.1 + 11), .ref (r.1 + 12), .ref (r.1 + 13)])), .inl (6, N.1), .inl (7, N.2.1), .inl (6, N.2.2.1), .inl (6, N.2.2.2), .inr (.inr (0, [.ref (r.1 + 3), .ref (r.1 + 15), .ref (r.1 + 16), .ref (r.1 + 17), .ref (r.1 + 18)])), .inl (6, A.1), .inl (7, A.2.1), .inl (6, A.2.2.1), .inl (6, A.2.2.2), .inr (.inr (2, [.ref (r.1 + 20), .int 0])), .inl (1098, fun _ => 0)]) (zpF_0 (Nat.le_of_ble_eq_true rfl)) ?_
  refine bstep (h := [.inr (.inr (5, [.ref (r.1 + 1), .ref (r.1 + 2), .ref (r.1 + 3), .ref (r.1 + 9), .ref (r.1 + 14), .ref (r.1 + 19), .ref (r.1 + 21), .int 0, .long 0, .long 0, .int 0, .null])), .inr (.inl (4, 6, fun _ => none)), .inr (.inl (4, 4, fun _ => none)), zCr r, .inl (7, fun _ => 0), .inl (6, fun _ => 0), .inl (6, fun _ => 0), .inl (6, fun _ => 0), .inl (6, fun _ => 0), .inr (.inr (0, [.ref (r.1 + 3), .ref (r.1 + 10), .ref (r.1 + 11), .ref (r.1 + 12), .ref (r.1 + 13)])), .inl (6, N.1), .inl (7, N.2.1), .inl (6, N.2.2.1), .inl (6, N.2.2.2), .inr (.inr (0, [.ref (r.1 + 3), .ref (r.1 + 15), .ref (r.1 + 16), .ref (r.1 + 17), .ref (r.1 + 18)])), .inl (6, A.1), .inl (7, A.2.1), .inl (6, A.2.2.1), .inl (6, A.2.2.2), .inr (.inr (2, [.ref (r.1 + 20), .int 0])), .inl (1098, fun _ => 0), .inr (.inl (2, 3, fun _ => none))]) (zpF_0 (Nat.le_of_ble_eq_true rfl)) ?_
  refine bstep (h := [.inr (.inr (5, [.ref (r.1 + 1), .ref (r.1 + 2), .ref (r.1 + 3), .ref (r.1 + 9), .ref (r.1 + 14), .ref (r.1 + 19), .ref (r.1 + 21), .int 0, .long 0, .long 0, .int 0, .null])), .inr (.inl (4, 6, fun _ => none)), .inr (.inl (4, 4, fun _ => none)), zCr r, .inl (7, fun _ => 0), .inl (6, fun _ => 0), .inl (6, fun _ => 0), .inl (6, fun _ => 0), .inl (6, fun _ => 0), .inr (.inr (0, [.ref (r.1 + 3), .ref (r.1 + 10), .ref (r.1 + 11), .ref (r.1 + 12), .ref (r.1 + 13)])), .inl (6, N.1), .inl (7, N.2.1), .inl (6, N.2.2.1), .inl (6, N.2.2.2), .inr (.inr (0, [.ref (r.1 + 3), .ref (r.1 + 15), .ref (r.1 + 16), .ref (r.1 + 17), .ref (r.1 + 18)])), .inl (6, A.1), .inl (7, A.2.1), .inl (6, A.2.2.1), .inl (6, A.2.2.2), .inr (.inr (2, [.ref (r.1 + 20), .int 0])), .inl (1098, fun _ => 0), .inr (.inl (2, 3, fun _ => none))]) (zpF_0 (Nat.le_of_ble_eq_true rfl)) ?_
  refine bstep (h := [.inr (.inr (5, [.ref (r.1 + 1), .ref (r.1 + 2), .ref (r.1 + 3), .ref (r.1 + 9), .ref (r.1 + 14), .ref (r.1 + 19), .ref (r.1 + 21), .int 0, .long 0, .long 0, .int 0, .null])), .inr (.inl (4, 6, fun _ => none)), .inr (.inl (4, 4, fun _ => none)), zCr r, .inl (7, fun _ => 0), .inl (6, fun _ => 0), .inl (6, fun _ => 0), .inl (6, fun _ => 0), .inl (6, fun _ => 0), .inr (.inr (0, [.ref (r.1 + 3), .ref (r.1 + 10), .ref (r.1 + 11), .ref (r.1 + 12), .ref (r.1 + 13)])), .inl (6, N.1), .inl (7, N.2.1), .inl (6, N.2.2.1), .inl (6, N.2.2.2), .inr (.inr (0, [.ref (r.1 + 3), .ref (r.1 + 15), .ref (r.1 + 16), .ref (r.1 + 17), .ref (r.1 + 18)])), .inl (6, A.1), .inl (7, A.2.1), .inl (6, A.2.2.1), .inl (6, A.2.2.2), .inr (.inr (2, [.ref (r.1 + 20), .int 0])), .inl (1098, fun _ => 0), .inr (.inl (2, 3, fun _ => none))]) (zpF_0 (Nat.le_of_ble_eq_true rfl)) ?_
  refine bstep (h := [.inr (.inr (5, [.ref (r.1 + 1), .ref (r.1 + 2), .ref (r.1 + 3), .ref (r.1 + 9), .ref (r.1 + 14), .ref (r.1 + 19), .ref (r.1 + 21), .int 0, .long 0, .long 1, .int 0, .null])), .inr (.inl (4, 6, fun _ => none)), .inr (.inl (4, 4, fun _ => none)), zCr r, .inl (7, fun _ => 0), .inl (6, fun _ => 0), .inl (6, fun _ => 0), .inl (6, fun _ => 0), .inl (6, fun _ => 0), .inr (.inr (0, [.ref (r.1 + 3), .ref (r.1 + 10), .ref (r.1 + 11), .ref (r.1 + 12), .ref (r.1 + 13)])), .inl (6, N.1), .inl (7, N.2.1), .inl (6, N.2.2.1), .inl (6, N.2.2.2), .inr (.inr (0, [.ref (r.1 + 3), .ref (r.1 + 15), .ref (r.1 + 16), .ref (r.1 + 17), .ref (r.1 + 18)])), .inl (6, A.1), .inl (7, A.2.1), .inl (6, A.2.2.1), .inl (6, A.2.2.2), .inr (.inr (2, [.ref (r.1 + 20), .int 0])), .inl (1098, fun _ => 0), .inr (.inl (2, 3, fun _ => none))]) (zpF_0 (Nat.le_of_ble_eq_true rfl)) ?_
  refine bstep (h := [.inr (.inr (5, [.ref (r.1 + 1), .ref (r.1 + 2), .ref (r.1 + 3), .ref (r.1 + 9), .ref (r.1 + 14), .ref (r.1 + 19), .ref (r.1 + 21), .int 0, .long 0, .long 1, .int 0, .null])), .inr (.inl (4, 6, fun _ => none)), .inr (.inl (4, 4, fun _ => none)), zCr r, .inl (7, fun _ => 0), .inl (6, fun _ => 0), .inl (6, fun _ => 0), .inl (6, fun _ => 0), .inl (6, fun _ => 0), .inr (.inr (0, [.ref (r.1 + 3), .ref (r.1 + 10), .ref (r.1 + 11), .ref (r.1 + 12), .ref (r.1 + 13)])), .inl (6, N.1), .inl (7, N.2.1), .inl (6, N.2.2.1), .inl (6, N.2.2.2), .inr (.inr (0, [.ref (r.1 + 3), .ref (r.1 + 15), .ref (r.1 + 16), .ref (r.1 + 17), .ref (r.1 + 18)])), .inl (6, A.1), .inl (7, A.2.1), .inl (6, A.2.2.1), .inl (6, A.2.2.2), .inr (.inr (2, [.ref (r.1 + 20), .int 0])), .inl (1098, fun _ => 0), .inr (.inl (2, 3, fun _ => none))]) (zpF_0 (Nat.le_of_ble_eq_true rfl)) ?_
  refine bstep (h := [.inr (.inr (5, [.ref (r.1 + 1), .ref (r.1 + 2), .ref (r.1 + 3), .ref (r.1 + 9), .ref (r.1 + 14), .ref (r.1 + 19), .ref (r.1 + 21), .int 0, .long 0, .long 1, .int 0, .ref (r.1 + 22)])), .inr (.inl (4, 6, fun _ => none)), .inr (.inl (4, 4, fun _ => none)), zCr r, .inl (7, fun _ => 0), .inl (6, fun _ => 0), .inl (6, fun _ => 0), .inl (6, fun _ => 0), .inl (6, fun _ => 0), .inr (.inr (0, [.ref (r.1 + 3), .ref (r.1 + 10), .ref (r.1 + 11), .ref (r.1 + 12), .ref (r.1 + 13)])), .inl (6, N.1), .inl (7, N.2.1), .inl (6, N.2.2.1), .inl (6, N.2.2.2), .inr (.inr (0, [.ref (r.1 + 3), .ref (r.1 + 15), .ref (r.1 + 16), .ref (r.1 + 17), .ref (r.1 + 18)])), .inl (6, A.1), .inl (7, A.2.1), .inl (6, A.2.2.1), .inl (6, A.2.2.2), .inr (.inr (2, [.ref (r.1 + 20), .int 0])), .inl (1098, fun _ => 0), .inr (.inl (2, 3, fun _ => none)), .inl (6, fun _ => 0)]) (zpF_0 (Nat.le_of_ble_eq_true rfl)) ?_
  exact i_B N A
/-- the state at first -/
theorem i_first (r : zE) : ∃ h1, zev r i_X5_init 0 [some (.ref (r.1 + 0)), none] [] [.inr (.inr (5, [.null, .null, .null, .null, .null, .null, .null, .int 0, .long 0, .long 0, .int 0, .null]))] = some (none, h1) ∧ h1.length = 49 ∧ zSt r zC0 0 (fun _ => (fun _ => 0, fun _ => 0, fun _ => 0)) (fun _ => none) (fun _ => none) (fun _ => none) 0 0 1 (fun _ => 0) (fun _ => 0) 0 (h1 ++ [.inl (27, fun _ => 0)] ++ [.inl (18, fun _ => 0)]) := by
  obtain ⟨N, A, e⟩ := i_A r
  refine ⟨_, e, rfl, 3, 3, fun i => if 3 ≤ i then -1 else 0, fun i => if i = 1 then 1 else 0, fun _ _ => 0, N, A, [], rfl, ⟨zC0_k, fun c0 c1 c2 I J Q N A Ga Va => ⟨mo_3, mg_3_0, mg_3_1, mg_3_2, mg_3_3, mg_3_5, mg_3_6, fun j hj => absurd hj (Nat.not_lt_zero _), fun j hj => absurd hj (Nat.not_lt_zero _), fun j hj => absurd hj (Nat.not_lt_zero _), fun j hj => absurd hj (Nat.not_lt_zero _)⟩, ⟨⟨fun m hm => absurd hm (Nat.not_lt_zero _), fun m hm => absurd hm (Nat.not_lt_zero _)⟩, fun m hm => absurd hm (Nat.not_lt_zero _), trivial⟩, fun m hm => absurd hm (Nat.not_lt_zero _), rfl, ⟨by decide, fun j _ => ⟨⟨⟨fun m hm => absurd hm (Nat.not_lt_zero _), fun m k hm => absurd hm (Nat.not_lt_zero _)⟩, fun m hm => absurd hm (Nat.not_lt_zero _), fun m hm => absurd hm (Nat.not_lt_zero _)⟩, fun m hm => absurd hm (Nat.not_lt_zero _)⟩⟩, fun k hk => ?_, fun j hj => ?_, fun j hj => ?_, rfl, rfl, rfl⟩, Nat.le_refl _, Nat.le_refl _⟩
  · exact if_pos (by omega)
  · exact if_pos (by omega)
  · exact if_pos (by omega)
end INIT6
