/-! WHAT A CALL LAYS: cells behind the rest; FAULT: both alike -/
section TAIL
variable {r : zE} {c0 c1 c2 : Nat} {I : Nat → Int32} {J : Nat → Int64} {Q : Nat → Nat → Int32} {N A : zBr} {U : Nat → Int32} {V : Nat → Int64} {X : Nat → Nat → Int32} {S : zSs} {t : zH}
theorem zmk_app {l : zH} : zmk r c0 c1 c2 I J Q N A U V X S (t ++ l) = (zmk r c0 c1 c2 I J Q N A U V X S t) ++ l := (List.append_assoc _ _ _).symm
theorem zmk_len : (zmk r c0 c1 c2 I J Q N A U V X S t).length = 65 + t.length := by
  unfold zmk
  rw [List.length_append]
  rfl
theorem zmk_at {l : zH} {i : Nat} : (zmk r c0 c1 c2 I J Q N A U V X S (t ++ l))[65 + t.length + i]? = l[i]? := by
  rw [zmk_app, List.getElem?_append_right (by rw [zmk_len]; omega), zmk_len, Nat.add_sub_cancel_left]
theorem zmk_set {l : zH} {i : Nat} {c : zC} : (zmk r c0 c1 c2 I J Q N A U V X S (t ++ l)).set (65 + t.length + i) c = zmk r c0 c1 c2 I J Q N A U V X S (t ++ l.set i c) := by
  rw [zmk_app, List.set_append_right _ _ (by rw [zmk_len]; omega), zmk_len, Nat.add_sub_cancel_left, ← zmk_app]
theorem get_app {h l : zH} {k : Nat} {c : zC} (e : h[k]? = some c) : (h ++ l)[k]? = some c := by
  rw [List.getElem?_append_left (List.getElem?_eq_some_iff.mp e).1]
  exact e
theorem zget_ap {h l : zH} {a : Nat} {c : zC} (e : zget r h a = some c) : zget r (h ++ l) a = some c := by
  unfold zget at *
  split at e
  · rename_i q; rw [if_pos q]; exact get_app e
  · cases e
theorem zob_ap {h l : zH} {a ci : Nat} (e : zob r h a ci = true) : zob r (h ++ l) a ci = true := by
  unfold zob at *
  split at e
  · rename_i q; rw [zget_ap q]; exact e
  · cases e
theorem zgI_ap {h l : zH} {a ci k : Nat} {v : Int32} (e : zgI r h a ci k = some v) : zgI r (h ++ l) a ci k = some v := by
  unfold zgI at *
  split at e
  · rename_i q; rw [zget_ap q]; exact e
  · cases e
theorem zgR_ap {h l : zH} {a ci k : Nat} {v : Nat} (e : zgR r h a ci k = some v) : zgR r (h ++ l) a ci k = some v := by
  unfold zgR at *
  split at e
  · rename_i q; rw [zget_ap q]; exact e
  · cases e
theorem zaI_ap {h l : zH} {a : Nat} {i v : Int32} (e : zaI r h a i = some v) : zaI r (h ++ l) a i = some v := by
  unfold zaI at *
  split at e
  · rename_i q
    rw [if_pos q]
    split at e
    · rename_i w; rw [get_app w]; exact e
    · cases e
  · rename_i q
    rw [if_neg q]
    exact e
theorem zCt_ap {C : zCs} {c : Nat} {l : zH} (h : zCt r t c C) : zCt r (t ++ l) c C := fun c0 c1 c2 I J Q N A U V X S => by
  obtain ⟨a1, a2, a3, a4, a5, a6, a7, a8, a9, a10, a11⟩ := h c0 c1 c2 I J Q N A U V X S
  rw [zmk_app]
  exact ⟨zob_ap a1, zgI_ap a2, zgI_ap a3, zgR_ap a4, zgR_ap a5, zgR_ap a6, zgR_ap a7, fun j hj => zaI_ap (a8 j hj), fun j hj => zaI_ap (a9 j hj), fun j hj => zaI_ap (a10 j hj), fun j hj => zaI_ap (a11 j hj)⟩
theorem zpF_mid {g l : zH} {ci f : Nat} {fs : List Value} {v : Value} (hl : f < fs.length) : zpF r (g ++ .inr (.inr (ci, fs)) :: l) (r.1 + g.length) ci f v = some (g ++ .inr (.inr (ci, fs.set f v)) :: l) := by
  rw [zpF_of (k := g.length) (fs := fs) (by rw [List.getElem?_append_right (Nat.le_refl _), Nat.sub_self]; rfl) hl, List.set_append_right _ _ (Nat.le_refl _), Nat.sub_self]
  rfl
/-- a new crew -/
theorem cr_init (r : zE) (g : zH) : zev r i_X1_init 0 [some (.ref (r.1 + g.length))] [] (g ++ [.inr (.inr (1, [.int 0, .int 0, .null, .null, .null, .null, .null]))]) = some (none, g ++ [.inr (.inr (1, [.int 0, .int 0, .ref (r.1 + (g.length + 1)), .ref (r.1 + (g.length + 2)), .ref (r.1 + (g.length + 3)), .ref (r.1 + (g.length + 4)), .ref (r.1 + (g.length + 5))])), .inl (7, fun _ => 0), .inl (6, fun _ => 0), .inl (6, fun _ => 0), .inl (6, fun _ => 0), .inl (6, fun _ => 0)]) := by
  rw [E_X1_init_0]
  have P : ∀ (a b : Int32) (v0 v1 v2 v3 v4 : Value) (l : zH) (f : Nat) (v : Value), f < 7 → zpF r (g ++ .inr (.inr (1, [.int a, .int b, v0, v1, v2, v3, v4])) :: l) (r.1 + g.length) 1 f v = some (g ++ .inr (.inr (1, [.int a, .int b, v0, v1, v2, v3, v4].set f v)) :: l) := fun a b v0 v1 v2 v3 v4 l f v hf => zpF_mid hf
  have A : ∀ (c : zC) (l l2 : zH), (g ++ c :: l) ++ l2 = g ++ c :: (l ++ l2) := fun c l l2 => by rw [List.append_assoc, List.cons_append]
  have Ln : ∀ l : zH, (g ++ l).length = g.length + l.length := fun l => List.length_append
  rw [P 0 0 _ _ _ _ _ _ 0 _ (by decide), Option.bind_some, show [Value.int 0, .int 0, .null, .null, .null, .null, .null].set 0 (.int 0) = [Value.int 0, .int 0, .null, .null, .null, .null, .null] from rfl]
  rw [P 0 0 _ _ _ _ _ _ 1 _ (by decide), Option.bind_some, show [Value.int 0, .int 0, .null, .null, .null, .null, .null].set 1 (.int 0) = [Value.int 0, .int 0, .null, .null, .null, .null, .null] from rfl]
  rw [A, P 0 0 _ _ _ _ _ _ 2 _ (by decide), Option.bind_some]
  dsimp only [List.set]
  rw [A, P 0 0 _ _ _ _ _ _ 3 _ (by decide), Option.bind_some]
  dsimp only [List.set]
  rw [A, P 0 0 _ _ _ _ _ _ 4 _ (by decide), Option.bind_some]
  dsimp only [List.set]
  rw [A, P 0 0 _ _ _ _ _ _ 5 _ (by decide), Option.bind_some]
  dsimp only [List.set]
  rw [A, P 0 0 _ _ _ _ _ _ 6 _ (by decide), Option.bind_some]
  dsimp only [List.set]
  simp only [Ln, List.nil_append, List.cons_append, List.length_cons, List.length_nil, Nat.reduceAdd, Nat.zero_add]
/-- a new reader -/
theorem rd_init (r : zE) (g l : zH) (a b : Nat) : zev r i_X3_init 0 [some (.ref (r.1 + g.length)), some (.ref a), some (.ref b)] [] (g ++ .inr (.inr (3, [.null, .null, .int 0])) :: l) = some (none, g ++ .inr (.inr (3, [.ref a, .ref b, .int 0])) :: l) := by
  have P : ∀ (v0 v1 v2 : Value) (f : Nat) (v : Value), f < 3 → zpF r (g ++ .inr (.inr (3, [v0, v1, v2])) :: l) (r.1 + g.length) 3 f v = some (g ++ .inr (.inr (3, [v0, v1, v2].set f v)) :: l) := fun v0 v1 v2 f v hf => zpF_mid hf
  rw [E_X3_init_0, P _ _ _ 2 _ (by decide), Option.bind_some]
  dsimp only [List.set]
  rw [P _ _ _ 0 _ (by decide), Option.bind_some]
  dsimp only [List.set]
  rw [P _ _ _ 1 _ (by decide), Option.bind_some]
  dsimp only [List.set]
def zTf (r : zE) (t : zH) (b : Nat) (s : zRd) : zH := [.inr (.inr (3, [.ref b, .ref (r.1 + (65 + t.length + 1)), .int (nI s.1)])), .inr (.inr (1, [.int (nI s.2.1), .int (nI s.2.2.1), .ref (r.1 + (65 + t.length + 1) + 1), .ref (r.1 + (65 + t.length + 1) + 2), .ref (r.1 + (65 + t.length + 1) + 3), .ref (r.1 + (65 + t.length + 1) + 4), .ref (r.1 + (65 + t.length + 1) + 5)])), .inl (7, s.2.2.2.1), .inl (6, s.2.2.2.2.1), .inl (6, s.2.2.2.2.2.1), .inl (6, s.2.2.2.2.2.2.1), .inl (6, s.2.2.2.2.2.2.2)]
theorem rx_f {b e : Nat} {T : zA} (o4 : ∀ t, zob r (zmk r c0 c1 c2 I J Q N A U V X S t) b 4 = true) (hs : ∀ t i, zev r i_X4_has 0 [some (.ref b), some (.int i)] [] (zmk r c0 c1 c2 I J Q N A U V X S t) = some (some (.int (zhk e i)), zmk r c0 c1 c2 I J Q N A U V X S t)) (hg : ∀ t i, zev r i_X4_get 0 [some (.ref b), some (.int i)] [] (zmk r c0 c1 c2 I J Q N A U V X S t) = some (some (.int (if zhk e i = 0 then 0 else T i.toNatClampNeg)), zmk r c0 c1 c2 I J Q N A U V X S t)) (hn : ∀ t, zgI r (zmk r c0 c1 c2 I J Q N A U V X S t) b 4 1 = some (nI e)) : zRx r (r.1 + (65 + t.length + 0)) (r.1 + (65 + t.length + 1)) b e T (fun s => zmk r c0 c1 c2 I J Q N A U V X S (t ++ zTf r t b s)) := by
  refine ⟨fun s => zob_of ((zmk_at (i := 0) (l := zTf r t b s)).trans rfl), fun s => zob_of ((zmk_at (i := 1) (l := zTf r t b s)).trans rfl), fun s => o4 _, fun s => zgR_of ((zmk_at (i := 0) (l := zTf r t b s)).trans rfl) rfl, fun s => zgR_of ((zmk_at (i := 0) (l := zTf r t b s)).trans rfl) rfl, fun s => zgI_of ((zmk_at (i := 0) (l := zTf r t b s)).trans rfl) rfl, fun s v => (zpF_of ((zmk_at (i := 0) (l := zTf r t b s)).trans rfl) (Nat.le_of_ble_eq_true rfl)).trans (congrArg some zmk_set), fun s => zgI_of ((zmk_at (i := 1) (l := zTf r t b s)).trans rfl) rfl, fun s => zgI_of ((zmk_at (i := 1) (l := zTf r t b s)).trans rfl) rfl, fun s v => (zpF_of ((zmk_at (i := 1) (l := zTf r t b s)).trans rfl) (Nat.le_of_ble_eq_true rfl)).trans (congrArg some zmk_set), fun s v => (zpF_of ((zmk_at (i := 1) (l := zTf r t b s)).trans rfl) (Nat.le_of_ble_eq_true rfl)).trans (congrArg some zmk_set), fun s => zgR_of ((zmk_at (i := 1) (l := zTf r t b s)).trans rfl) rfl, fun s => zgR_of ((zmk_at (i := 1) (l := zTf r t b s)).trans rfl) rfl, fun s => zgR_of ((zmk_at (i := 1) (l := zTf r t b s)).trans rfl) rfl, fun s => zgR_of ((zmk_at (i := 1) (l := zTf r t b s)).trans rfl) rfl, fun s => zgR_of ((zmk_at (i := 1) (l := zTf r t b s)).trans rfl) rfl, fun s j v hj => ?_, fun s j v hj => ?_, fun s j v hj => ?_, fun s j v hj => ?_, fun s j v hj => ?_, fun s i => hs _ i, fun s i => hg _ i, fun s => hn _⟩
  · exact (zsI_of (k := 65 + t.length + 2) ((zmk_at (i := 2) (l := zTf r t b s)).trans rfl) hj (by decide)).trans (congrArg some zmk_set)
  · exact (zsI_of (k := 65 + t.length + 3) ((zmk_at (i := 3) (l := zTf r t b s)).trans rfl) hj (by decide)).trans (congrArg some zmk_set)
  · exact (zsI_of (k := 65 + t.length + 4) ((zmk_at (i := 4) (l := zTf r t b s)).trans rfl) hj (by decide)).trans (congrArg some zmk_set)
  · exact (zsI_of (k := 65 + t.length + 5) ((zmk_at (i := 5) (l := zTf r t b s)).trans rfl) hj (by decide)).trans (congrArg some zmk_set)
  · exact (zsI_of (k := 65 + t.length + 6) ((zmk_at (i := 6) (l := zTf r t b s)).trans rfl) hj (by decide)).trans (congrArg some zmk_set)
def zTd (r : zE) (t : zH) (b : Nat) (s : zRd) : zH := [.inr (.inr (1, [.int (nI s.2.1), .int (nI s.2.2.1), .ref (r.1 + (65 + t.length + 0) + 1), .ref (r.1 + (65 + t.length + 0) + 2), .ref (r.1 + (65 + t.length + 0) + 3), .ref (r.1 + (65 + t.length + 0) + 4), .ref (r.1 + (65 + t.length + 0) + 5)])), .inl (7, s.2.2.2.1), .inl (6, s.2.2.2.2.1), .inl (6, s.2.2.2.2.2.1), .inl (6, s.2.2.2.2.2.2.1), .inl (6, s.2.2.2.2.2.2.2), .inr (.inr (3, [.ref b, .ref (r.1 + (65 + t.length + 0)), .int (nI s.1)]))]
theorem rx_d {b e : Nat} {T : zA} (o4 : ∀ t, zob r (zmk r c0 c1 c2 I J Q N A U V X S t) b 4 = true) (hs : ∀ t i, zev r i_X4_has 0 [some (.ref b), some (.int i)] [] (zmk r c0 c1 c2 I J Q N A U V X S t) = some (some (.int (zhk e i)), zmk r c0 c1 c2 I J Q N A U V X S t)) (hg : ∀ t i, zev r i_X4_get 0 [some (.ref b), some (.int i)] [] (zmk r c0 c1 c2 I J Q N A U V X S t) = some (some (.int (if zhk e i = 0 then 0 else T i.toNatClampNeg)), zmk r c0 c1 c2 I J Q N A U V X S t)) (hn : ∀ t, zgI r (zmk r c0 c1 c2 I J Q N A U V X S t) b 4 1 = some (nI e)) : zRx r (r.1 + (65 + t.length + 6)) (r.1 + (65 + t.length + 0)) b e T (fun s => zmk r c0 c1 c2 I J Q N A U V X S (t ++ zTd r t b s)) := by
  refine ⟨fun s => zob_of ((zmk_at (i := 6) (l := zTd r t b s)).trans rfl), fun s => zob_of ((zmk_at (i := 0) (l := zTd r t b s)).trans rfl), fun s => o4 _, fun s => zgR_of ((zmk_at (i := 6) (l := zTd r t b s)).trans rfl) rfl, fun s => zgR_of ((zmk_at (i := 6) (l := zTd r t b s)).trans rfl) rfl, fun s => zgI_of ((zmk_at (i := 6) (l := zTd r t b s)).trans rfl) rfl, fun s v => (zpF_of ((zmk_at (i := 6) (l := zTd r t b s)).trans rfl) (Nat.le_of_ble_eq_true rfl)).trans (congrArg some zmk_set), fun s => zgI_of ((zmk_at (i := 0) (l := zTd r t b s)).trans rfl) rfl, fun s => zgI_of ((zmk_at (i := 0) (l := zTd r t b s)).trans rfl) rfl, fun s v => (zpF_of ((zmk_at (i := 0) (l := zTd r t b s)).trans rfl) (Nat.le_of_ble_eq_true rfl)).trans (congrArg some zmk_set), fun s v => (zpF_of ((zmk_at (i := 0) (l := zTd r t b s)).trans rfl) (Nat.le_of_ble_eq_true rfl)).trans (congrArg some zmk_set), fun s => zgR_of ((zmk_at (i := 0) (l := zTd r t b s)).trans rfl) rfl, fun s => zgR_of ((zmk_at (i := 0) (l := zTd r t b s)).trans rfl) rfl, fun s => zgR_of ((zmk_at (i := 0) (l := zTd r t b s)).trans rfl) rfl, fun s => zgR_of ((zmk_at (i := 0) (l := zTd r t b s)).trans rfl) rfl, fun s => zgR_of ((zmk_at (i := 0) (l := zTd r t b s)).trans rfl) rfl, fun s j v hj => ?_, fun s j v hj => ?_, fun s j v hj => ?_, fun s j v hj => ?_, fun s j v hj => ?_, fun s i => hs _ i, fun s i => hg _ i, fun s => hn _⟩
  · exact (zsI_of (k := 65 + t.length + 1) ((zmk_at (i := 1) (l := zTd r t b s)).trans rfl) hj (by decide)).trans (congrArg some zmk_set)
  · exact (zsI_of (k := 65 + t.length + 2) ((zmk_at (i := 2) (l := zTd r t b s)).trans rfl) hj (by decide)).trans (congrArg some zmk_set)
  · exact (zsI_of (k := 65 + t.length + 3) ((zmk_at (i := 3) (l := zTd r t b s)).trans rfl) hj (by decide)).trans (congrArg some zmk_set)
  · exact (zsI_of (k := 65 + t.length + 4) ((zmk_at (i := 4) (l := zTd r t b s)).trans rfl) hj (by decide)).trans (congrArg some zmk_set)
  · exact (zsI_of (k := 65 + t.length + 5) ((zmk_at (i := 5) (l := zTd r t b s)).trans rfl) hj (by decide)).trans (congrArg some zmk_set)
theorem both_t {r : zE} {n n' : Nat} {e1 e2 : zH → Option zRes} {h : zH} (b : zBoth r n n e1 e2 h) (hn : n ≤ n') : zBoth r n' n' e1 e2 h := by
  obtain ⟨v, h1, h2, p1, o, p2, C, c, c2, I, J, Q, N, A, U, V, X, S, t, e, iv, t1, t2⟩ := b
  exact ⟨v, h1, h2, p1, o, p2, C, c, c2, I, J, Q, N, A, U, V, X, S, t, e, iv, by omega, by omega⟩
end TAIL
section FAULT
variable {r : zE} {c0 c1 c2 : Nat} {I : Nat → Int32} {J : Nat → Int64} {Q : Nat → Nat → Int32} {N A : zBr} {U : Nat → Int32} {V : Nat → Int64} {X : Nat → Nat → Int32} {S : zSs} {t : zH} {C : zCs} {c n : Nat}
theorem iv_read {l : zH} {j e p h m : Nat} {Y Z : zA} (i : zIv r C c I J Q N U V X t) : zIv r C c I J Q N (zUr U j e p h m) V (zXr X Y Z) (t ++ l) := by
  obtain ⟨k, hC, mv, to, ro, te, no, lg, ke⟩ := i
  exact ⟨k, zCt_ap hC, mv, to, ro, te, no, lg, ke⟩
theorem lk_fault (E : zEk r) (a : Int32) {h : zH} (st : zSt r n h) : zBoth r n (n + 1) (zev r i_X5_fault 0 [some (.ref (r.1 + 0)), some (.int a), none] []) (zev r i_X6_fault 0 [some (.ref (r.1 + 49)), some (.int a)] []) h := by
  obtain ⟨C, c, c2, I, J, Q, N, A, U, V, X, S, t, rfl, iv, t1, t2⟩ := st
  have st1 : ∀ {h2 : zH}, zSt r n h2 → zSt r (n + 1) h2 := fun ⟨C, c, c2, I, J, Q, N, A, U, V, X, S, t, e, iv, t1, t2⟩ => ⟨C, c, c2, I, J, Q, N, A, U, V, X, S, t, e, iv, by omega, by omega⟩
  rcases zhk_cases 4 (by decide) a with e | ⟨e, j, hj, rfl⟩
  · refine both (v := (-1)) (h1 := (zmk r c c c2 I J Q N A U V X S t)) (h2 := (zmk r c c c2 I J Q N A U V X S t)) ?_ ?_ (st1 (st_mk iv t1 t2))
    · simp only [E_X5_fault_0, mo_0, mg_0_0, mg_0_1, mg_0_2, mg_0_3, mg_0_4, mg_0_5, mg_0_6, mg_0_7, mg_0_8, mg_0_9, mg_0_10, mg_0_11, if_true, k_textAt, e, zcQ_null]
    · simp only [E_X6_fault_0, m_text, e, if_true, zcI_some]
  · rcases iv.2.2.2.2.2.1 j hj with ⟨s1, s2⟩ | ⟨m, hm, s1, s2, s3⟩
    · refine both (v := (-3)) (h1 := (zmk r c c c2 (va_up I 1 (nI 1)) J (va_up Q 0 (upd (Q 0) 1 (Q 0 1 + 1))) N A U V X S t)) (h2 := (zmk r c c c2 (va_up I 1 (nI 1)) J (va_up Q 0 (upd (Q 0) 1 (Q 0 1 + 1))) N A (va_up U 3 (nI 1)) V (va_up X 9 (upd (X 9) 1 (X 9 1 + 1))) S t)) ?_ ?_ (st1 (st_mk (iv_found 1 iv (by decide) (by decide)) t1 t2))
      · simp only [E_X5_fault_0, mo_0, mg_0_0, mg_0_1, mg_0_2, mg_0_3, mg_0_4, mg_0_5, mg_0_6, mg_0_7, mg_0_8, mg_0_9, mg_0_10, mg_0_11, if_true, k_textAt, e, i01, if_false, zcQ_ref, nI_clamp (show j < 2 ^ 31 by omega), mo_t hj, wt_miss hj, s1, zcI_some, k_f1]
      · simp only [E_X6_fault_0, mo_49, mg_49_0, mg_49_1, mg_49_2, mg_49_3, mg_49_4, mg_49_5, mg_49_6, mg_49_7, mg_49_8, mg_49_9, mg_49_10, mg_49_11, mg_49_12, mg_49_13, mg_49_14, mg_49_15, mg_49_16, mg_49_17, mg_49_18, mg_49_19, mg_49_20, mg_49_21, mg_49_22, mg_49_23, mg_49_24, mg_49_25, m_text, e, i01, if_false, Option.bind_some, ma_57 hj, s2, show (-1 : Int32) < 0 from by decide, if_true, zcI_some, m_f1]
    · have R := rx_f (r := r) (c0 := c) (c1 := c) (c2 := c2) (I := I) (J := J) (Q := Q) (N := N) (A := A) (U := U) (V := V) (X := X) (S := S) (t := t) (b := r.1 + 35 + 2 * j) (e := m) (T := Q (19 + j)) (fun t => mo_t hj) (fun t i => wt_has hj s1 i) (fun t i => wt_get hj s1 hm i) (fun t => by rw [mgs_t hj, s1])
      have er := rd_read R E hm
      rw [Nat.add_zero] at er
      obtain ⟨Y, Z, e2, hY, hZ⟩ := m_faultOf (r := r) (U := U) (T := Q (19 + j)) hj (fun i hi => (s3 i hi).symm) hm s2
      have ei : ∀ g : zH, g = (zmk r c c c2 I J Q N A U V X S t) → zcV (zev r i_X1_init 0 [some (.ref (r.1 + (g ++ [.inr (.inr (3, [.null, .null, .int 0]))] : zH).length))] [] (g ++ [.inr (.inr (3, [.null, .null, .int 0]))] ++ [.inr (.inr (1, [.int 0, .int 0, .null, .null, .null, .null, .null]))] : zH)) (fun h3 =>
        zcV (zev r i_X3_init 0 [some (.ref (r.1 + g.length)), some (.ref (r.1 + 35 + 2 * j)), some (.ref (r.1 + (g ++ [.inr (.inr (3, [.null, .null, .int 0]))] : zH).length))] [] h3) fun h4 =>
        if zob r h4 (r.1 + g.length) 3 = true then
        (zcI (zev r i_X3_read 0 [some (.ref (r.1 + g.length)), none, none] [] h4) fun v4 h5 =>
        (some (some (Value.int v4), h5) : Option zRes))
        else none) = some (some (Value.int (rAll (Q (19 + j)) m).1), zmk r c c c2 I J Q N A U V X S (t ++ zTf r t (r.1 + 35 + 2 * j) (rAll (Q (19 + j)) m).2)) := fun g hg => by
        have gl : g.length = 65 + t.length := by rw [hg]; exact zmk_len
        rw [cr_init, zcV_some, List.length_append, List.append_assoc, List.cons_append, List.nil_append, rd_init, zcV_some]
        have eh : g ++ .inr (.inr (3, [.ref (r.1 + 35 + 2 * j), .ref (r.1 + (g.length + 1)), .int 0])) :: [.inr (.inr (1, [.int 0, .int 0, .ref (r.1 + (g.length + 1 + 1)), .ref (r.1 + (g.length + 1 + 2)), .ref (r.1 + (g.length + 1 + 3)), .ref (r.1 + (g.length + 1 + 4)), .ref (r.1 + (g.length + 1 + 5))])), .inl (7, fun _ => 0), .inl (6, fun _ => 0), .inl (6, fun _ => 0), .inl (6, fun _ => 0), .inl (6, fun _ => 0)] = zmk r c c c2 I J Q N A U V X S (t ++ zTf r t (r.1 + 35 + 2 * j) (0, 0, 0, rZ)) := by
          rw [zmk_app, ← hg, gl]
          rfl
        rw [show ([.inr (.inr (3, [.null, .null, .int 0]))] : zH).length = 1 from rfl, eh, gl]
        exact (if_pos (R.1 (0, 0, 0, rZ))).trans (by rw [er, zcI_some])
      refine both (v := (rAll (Q (19 + j)) m).1) (h1 := zmk r c c c2 I J Q N A U V X S (t ++ zTf r t (r.1 + 35 + 2 * j) (rAll (Q (19 + j)) m).2)) (h2 := zmk r c c c2 I J Q N A (zUr U j m (rAll (Q (19 + j)) m).2.1 (rAll (Q (19 + j)) m).2.2.1 (rAll (Q (19 + j)) m).2.2.2.1) V (zXr X Y Z) S (t ++ zTf r t (r.1 + 35 + 2 * j) (rAll (Q (19 + j)) m).2)) ?_ ?_ (st_mk (iv_read iv) ?_ ?_)
      · simp only [E_X5_fault_0, mo_0, mg_0_0, mg_0_1, mg_0_2, mg_0_3, mg_0_4, mg_0_5, mg_0_6, mg_0_7, mg_0_8, mg_0_9, mg_0_10, mg_0_11, if_true, k_textAt, e, i01, if_false, zcQ_ref, nI_clamp (show j < 2 ^ 31 by omega), mo_t hj, wt_miss hj, s1, nI_m1 (show m < 2 ^ 31 by omega), zcI_some]
        exact ei _ rfl
      · simp only [E_X6_fault_0, mo_49, mg_49_0, mg_49_1, mg_49_2, mg_49_3, mg_49_4, mg_49_5, mg_49_6, mg_49_7, mg_49_8, mg_49_9, mg_49_10, mg_49_11, mg_49_12, mg_49_13, mg_49_14, mg_49_15, mg_49_16, mg_49_17, mg_49_18, mg_49_19, mg_49_20, mg_49_21, mg_49_22, mg_49_23, mg_49_24, mg_49_25, m_text, e, i01, if_false, Option.bind_some, ma_57 hj, s2, nI_pos (show m < 2 ^ 31 by omega), zcI_some, if_true, e2]
      · rw [List.length_append]
        show t.length + 7 ≤ 7 * (n + 1)
        omega
      · rw [zhs_app]
        show zhs t + 41 ≤ 60 * (n + 1)
        omega
end FAULT
