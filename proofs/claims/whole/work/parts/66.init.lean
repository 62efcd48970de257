/-! THE CONSTRUCTORS -/
section INIT
variable {r : zE}
theorem bstep {α : Type} {q : Option α} {h : α} {K : α → Option zRes} {z : Option zRes} (e : q = some h) (k : K h = z) : q.bind K = z := by rw [e]; exact k
theorem vstep {q : Option zRes} {h : zH} {K : zH → Option zRes} {z : Option zRes} (e : q = some (none, h)) (k : K h = z) : zcV q K = z := by rw [e]; exact k
theorem app_at {g l : zH} {i : Nat} : (g ++ l)[g.length + i]? = l[i]? := by
  rw [List.getElem?_append_right (by omega), Nat.add_sub_cancel_left]
theorem app_set {g l : zH} {i : Nat} {c : zC} : (g ++ l).set (g.length + i) c = g ++ l.set i c := by
  rw [List.set_append_right _ _ (by omega), Nat.add_sub_cancel_left]
theorem app_A (g : zH) (c : zC) (l l2 : zH) : (g ++ c :: l) ++ l2 = g ++ c :: (l ++ l2) := by rw [List.append_assoc, List.cons_append]
theorem app_L (g l : zH) : (g ++ l).length = g.length + l.length := List.length_append
theorem rw_init (r : zE) (g : zH) : zev r i_X4_init 0 [some (.ref (r.1 + g.length))] [] (g ++ [.inr (.inr (4, [.null, .int 0]))]) = some (none, g ++ [.inr (.inr (4, [.ref (r.1 + (g.length + 1)), .int (-1)])), .inl (60, fun _ => 0)]) := by
  rw [E_X4_init_0, app_A]
  refine bstep (zpF_mid (Nat.le_of_ble_eq_true rfl)) (bstep (zpF_mid (Nat.le_of_ble_eq_true rfl)) ?_)
  rw [app_L]
  rfl
theorem lg_init (r : zE) (g : zH) (i : Int32) : zev r i_X2_init 0 [some (.ref (r.1 + g.length)), some (.int i)] [] (g ++ [.inr (.inr (2, [.null, .int 0]))]) = some (none, g ++ [.inr (.inr (2, [.ref (r.1 + (g.length + 1)), .int i])), .inl (1098, fun _ => 0)]) := by
  rw [E_X2_init_0, app_A]
  refine bstep (zpF_mid (Nat.le_of_ble_eq_true rfl)) (bstep (zpF_mid (Nat.le_of_ble_eq_true rfl)) ?_)
  rw [app_L]
  rfl
/-- nobody and nothing -/
def zC0 : zCs := (0, 0, fun _ => 0, fun _ => 0, fun _ => 0, fun _ => 0)
theorem zC0_k : zCk zC0 := ⟨by decide, by decide, by decide, fun h hh => absurd hh (Nat.not_lt_zero _), fun h hh => absurd hh (Nat.not_lt_zero _)⟩
theorem zCv_ap {C : zCs} {c : Nat} {h l : zH} (v : zCv r c C h) : zCv r c C (h ++ l) := by
  obtain ⟨a1, a2, a3, a4, a5, a6, a7, a8, a9, a10, a11⟩ := v
  exact ⟨zob_ap a1, zgI_ap a2, zgI_ap a3, zgR_ap a4, zgR_ap a5, zgR_ap a6, zgR_ap a7, fun j hj => zaI_ap (a8 j hj), fun j hj => zaI_ap (a9 j hj), fun j hj => zaI_ap (a10 j hj), fun j hj => zaI_ap (a11 j hj)⟩
def zB4 (r : zE) (g : zH) (B : zBr) : zH := g ++ [.inr (.inr (0, [.ref (r.1 + 3), .ref (r.1 + (g.length + 1)), .ref (r.1 + (g.length + 2)), .ref (r.1 + (g.length + 3)), .ref (r.1 + (g.length + 4))])), .inl (6, B.1), .inl (7, B.2.1), .inl (6, B.2.2.1), .inl (6, B.2.2.2)]
theorem zB4_at {g : zH} {B : zBr} {i : Nat} : (zB4 r g B)[g.length + i]? = ([.inr (.inr (0, [.ref (r.1 + 3), .ref (r.1 + (g.length + 1)), .ref (r.1 + (g.length + 2)), .ref (r.1 + (g.length + 3)), .ref (r.1 + (g.length + 4))])), .inl (6, B.1), .inl (7, B.2.1), .inl (6, B.2.2.1), .inl (6, B.2.2.2)] : zH)[i]? := app_at
theorem zB4_bx {g : zH} (hv : zCv r (r.1 + 3) zC0 g) : zBx r (r.1 + g.length) (r.1 + 3) zC0 (zB4 r g) := fun B =>
  ⟨zCv_ap hv, zob_of (zB4_at (i := 0)), zgR_of (zB4_at (i := 0)) rfl, zgR_of (zB4_at (i := 0)) rfl, zgR_of (zB4_at (i := 0)) rfl, zgR_of (zB4_at (i := 0)) rfl, zgR_of (zB4_at (i := 0)) rfl,
   fun j hj => zaI_of (zB4_at (i := 1)) hj (by decide), fun j hj => zaI_of (zB4_at (i := 2)) hj (by decide), fun j hj => zaI_of (zB4_at (i := 3)) hj (by decide), fun j hj => zaI_of (zB4_at (i := 4)) hj (by decide),
   fun j y hj => (zsI_of (zB4_at (i := 1)) hj (by decide)).trans (congrArg some app_set), fun j y hj => (zsI_of (zB4_at (i := 2)) hj (by decide)).trans (congrArg some app_set), fun j y hj => (zsI_of (zB4_at (i := 3)) hj (by decide)).trans (congrArg some app_set), fun j y hj => (zsI_of (zB4_at (i := 4)) hj (by decide)).trans (congrArg some app_set),
   zaN_of (zB4_at (i := 1)), zaN_of (zB4_at (i := 2))⟩
theorem bt_init {g : zH} (hv : zCv r (r.1 + 3) zC0 g) (hf : zgR r g (r.1 + 3) 1 4 = some (r.1 + 6)) (ha : g[6]? = some (.inl (6, fun _ => 0))) : ∃ B : zBr, zev r i_X0_init 0 [some (.ref (r.1 + g.length)), some (.ref (r.1 + 3))] [] (g ++ [.inr (.inr (0, [.null, .null, .null, .null, .null]))]) = some (none, zB4 r g B) := by
  have bx := zB4_bx hv
  obtain ⟨H', G', e1, -⟩ := b_first bx zC0_k (B := (fun _ => 0, fun _ => 0, va_cpy (fun _ => 0) (fun _ => 0) 0 0 6, fun i => if i < 6 then 0 else 0))
  refine ⟨(H', G', va_cpy (fun _ => 0) (fun _ => 0) 0 0 6, fun i => if i < 6 then 0 else 0), (E_X0_init_0 ..).trans ?_⟩
  have P : ∀ (v0 v1 v2 v3 v4 : Value) (l : zH) (f : Nat) (v : Value), f < 5 → zpF r (g ++ .inr (.inr (0, [v0, v1, v2, v3, v4])) :: l) (r.1 + g.length) 0 f v = some (g ++ .inr (.inr (0, [v0, v1, v2, v3, v4].set f v)) :: l) := fun v0 v1 v2 v3 v4 l f v hf => zpF_mid hf
  rw [app_A, P _ _ _ _ _ _ 1 _ (by decide), Option.bind_some]
  dsimp only [List.set]
  simp only [app_L, List.nil_append, List.cons_append, List.length_cons, List.length_nil, Nat.reduceAdd, Nat.zero_add]
  rw [app_A, P _ _ _ _ _ _ 2 _ (by decide), Option.bind_some]
  dsimp only [List.set]
  simp only [app_L, List.nil_append, List.cons_append, List.length_cons, List.length_nil, Nat.reduceAdd, Nat.zero_add]
  rw [app_A, P _ _ _ _ _ _ 3 _ (by decide), Option.bind_some]
  dsimp only [List.set]
  simp only [app_L, List.nil_append, List.cons_append, List.length_cons, List.length_nil, Nat.reduceAdd, Nat.zero_add]
  rw [app_A, P _ _ _ _ _ _ 4 _ (by decide), Option.bind_some]
  dsimp only [List.set]
  simp only [app_L, List.nil_append, List.cons_append, List.length_cons, List.length_nil, Nat.reduceAdd, Nat.zero_add]
  refine (if_pos (show zob r _ (r.1 + g.length) 0 = true from zob_of (k := g.length) (by rw [List.getElem?_append_right (Nat.le_refl _), Nat.sub_self]; rfl))).trans ?_
  refine vstep ((E_X0_begin_0 ..).trans (bstep (h := zB4 r g (fun _ => 0, fun _ => 0, fun _ => 0, fun _ => 0)) (zpF_mid (Nat.le_of_ble_eq_true rfl)) ?_)) rfl
  have p1 : zcp r (zB4 r g (fun _ => 0, fun _ => 0, fun _ => 0, fun _ => 0)) (r.1 + 6) 0 (r.1 + (g.length + 3)) 0 6 = some (zB4 r g (fun _ => 0, fun _ => 0, va_cpy (fun _ => 0) (fun _ => 0) 0 0 6, fun _ => 0)) :=
    (zcp_of (r := r) (h := zB4 r g (fun _ => 0, fun _ => 0, fun _ => 0, fun _ => 0)) (k := 6) (k1 := g.length + 3) (n0 := 6) (n1 := 6) (sp := 0) (dp := 0) (n := 6) (f := fun _ => 0) (g := fun _ => 0) (get_app ha) (zB4_at (i := 3)) (by decide) (by decide) (by decide) (by decide)).trans (congrArg some app_set)
  have p2 := z_fill r (n := 6) (a := r.1 + (g.length + 4)) (fun f => zB4 r g (fun _ => 0, fun _ => 0, va_cpy (fun _ => 0) (fun _ => 0) 0 0 6, f)) (by decide) (fun f => zaN_of (zB4_at (i := 4))) (fun f j y hj => (zsI_of (zB4_at (i := 4)) hj (by decide)).trans (congrArg some app_set)) (fun _ => 0) 0
  refine bstep (h := r.1 + 6) (zgR_ap hf) (bstep (h := r.1 + (g.length + 3)) (zgR_of (zB4_at (i := 0)) rfl) (bstep p1 (bstep (h := r.1 + (g.length + 4)) (zgR_of (zB4_at (i := 0)) rfl) (vstep p2 ?_))))
  rw [if_pos (bx _).2.1]
  exact vstep e1 rfl
end INIT
