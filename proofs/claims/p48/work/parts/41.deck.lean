/-! WHAT A CALL LAYS; FAULT AND DECK -/
section TAIL
variable {r : zE} {c0 c1 c2 : Nat} {I : Nat → Int32} {J : Nat → Int64} {Q : Nat → Nat → Int32} {N A : zBr} {Ga Va : Nat → Int32} {t : zH}
theorem zmk_app {l : zH} : zmk r c0 c1 c2 I J Q N A Ga Va (t ++ l) = (zmk r c0 c1 c2 I J Q N A Ga Va t) ++ l := (List.append_assoc _ _ _).symm
theorem zmk_len : (zmk r c0 c1 c2 I J Q N A Ga Va t).length = 51 + t.length := by
  unfold zmk
  rw [List.length_append]
  rfl
theorem zmk_at {l : zH} {i : Nat} : (zmk r c0 c1 c2 I J Q N A Ga Va (t ++ l))[51 + t.length + i]? = l[i]? := by
  rw [zmk_app, List.getElem?_append_right (by rw [zmk_len]; omega), zmk_len, Nat.add_sub_cancel_left]
theorem zmk_set {l : zH} {i : Nat} {c : zC} : (zmk r c0 c1 c2 I J Q N A Ga Va (t ++ l)).set (51 + t.length + i) c = zmk r c0 c1 c2 I J Q N A Ga Va (t ++ l.set i c) := by
  rw [zmk_app, List.set_append_right _ _ (by rw [zmk_len]; omega), zmk_len, Nat.add_sub_cancel_left, ← zmk_app]
theorem get_app {h l : zH} {k : Nat} {c : zC} (e : h[k]? = some c) : (h ++ l)[k]? = some c := by
  rw [List.getElem?_append_left (List.getElem?_eq_some_iff.mp e).1]
  exact e
theorem zget_ap {h l : zH} {a : Nat} {c : zC} (e : zget r h a = some c) : zget r (h ++ l) a = some c := by
  unfold zget at *
  split at e
  · rename_i q; rw [if_pos q]; exact get_app e
  · cases e
theorem zob_ap {h l : zH} {a ci : Nat} (e : zob r h a ci = true) : zob r (h ++ l) a ci = true := by
  unfold zob at *
  split at e
  · rename_i q; rw [zget_ap q]; exact e
  · cases e
theorem zgI_ap {h l : zH} {a ci k : Nat} {v : Int32} (e : zgI r h a ci k = some v) : zgI r (h ++ l) a ci k = some v := by
  unfold zgI at *
  split at e
  · rename_i q; rw [zget_ap q]; exact e
  · cases e
theorem zgR_ap {h l : zH} {a ci k : Nat} {v : Nat} (e : zgR r h a ci k = some v) : zgR r (h ++ l) a ci k = some v := by
  unfold zgR at *
  split at e
  · rename_i q; rw [zget_ap q]; exact e
  · cases e
theorem zaI_ap {h l : zH} {a : Nat} {i v : Int32} (e : zaI r h a i = some v) : zaI r (h ++ l) a i = some v := by
  unfold zaI at *
  split at e
  · rename_i q
    rw [if_pos q]
    split at e
    · rename_i w; rw [get_app w]; exact e
    · cases e
  · rename_i q
    rw [if_neg q]
    exact e
theorem zCt_ap {C : zCs} {c : Nat} {l : zH} (h : zCt r t c C) : zCt r (t ++ l) c C := fun c0 c1 c2 I J Q N A Ga Va => by
  obtain ⟨a1, a2, a3, a4, a5, a6, a7, a8, a9, a10, a11⟩ := h c0 c1 c2 I J Q N A Ga Va
  rw [zmk_app]
  exact ⟨zob_ap a1, zgI_ap a2, zgI_ap a3, zgR_ap a4, zgR_ap a5, zgR_ap a6, zgR_ap a7, fun j hj => zaI_ap (a8 j hj), fun j hj => zaI_ap (a9 j hj), fun j hj => zaI_ap (a10 j hj), fun j hj => zaI_ap (a11 j hj)⟩
theorem zpF_mid {g l : zH} {ci f : Nat} {fs : List Value} {v : Value} (hl : f < fs.length) : zpF r (g ++ .inr (.inr (ci, fs)) :: l) (r.1 + g.length) ci f v = some (g ++ .inr (.inr (ci, fs.set f v)) :: l) := by
  rw [zpF_of (k := g.length) (fs := fs) (by rw [List.getElem?_append_right (Nat.le_refl _), Nat.sub_self]; rfl) hl, List.set_append_right _ _ (Nat.le_refl _), Nat.sub_self]
  rfl
theorem cr_init (r : zE) (g : zH) : zev r i_X1_init 0 [some (.ref (r.1 + g.length))] [] (g ++ [.inr (.inr (1, [.int 0, .int 0, .null, .null, .null, .null, .null]))]) = some (none, g ++ [.inr (.inr (1, [.int 0, .int 0, .ref (r.1 + (g.length + 1)), .ref (r.1 + (g.length + 2)), .ref (r.1 + (g.length + 3)), .ref (r.1 + (g.length + 4)), .ref (r.1 + (g.length + 5))])), .inl (7, fun _ => 0), .inl (6, fun _ => 0), .inl (6, fun _ => 0), .inl (6, fun _ => 0), .inl (6, fun _ => 0)]) := by
  rw [E_X1_init_0]
  have P : ∀ (a b : Int32) (v0 v1 v2 v3 v4 : Value) (l : zH) (f : Nat) (v : Value), f < 7 → zpF r (g ++ .inr (.inr (1, [.int a, .int b, v0, v1, v2, v3, v4])) :: l) (r.1 + g.length) 1 f v = some (g ++ .inr (.inr (1, [.int a, .int b, v0, v1, v2, v3, v4].set f v)) :: l) := fun a b v0 v1 v2 v3 v4 l f v hf => zpF_mid hf
  have A : ∀ (c : zC) (l l2 : zH), (g ++ c :: l) ++ l2 = g ++ c :: (l ++ l2) := fun c l l2 => by rw [List.append_assoc, List.cons_append]
  have Ln : ∀ l : zH, (g ++ l).length = g.length + l.length := fun l => List.length_append
  rw [P 0 0 _ _ _ _ _ _ 0 _ (by decide), Option.bind_some, show [Value.int 0, .int 0, .null, .null, .null, .null, .null].set 0 (.int 0) = [Value.int 0, .int 0, .null, .null, .null, .null, .null] from rfl]
  rw [P 0 0 _ _ _ _ _ _ 1 _ (by decide), Option.bind_some, show [Value.int 0, .int 0, .null, .null, .null, .null, .null].set 1 (.int 0) = [Value.int 0, .int 0, .null, .null, .null, .null, .null] from rfl]
  rw [A, P 0 0 _ _ _ _ _ _ 2 _ (by decide), Option.bind_some]
  dsimp only [List.set]
  rw [A, P 0 0 _ _ _ _ _ _ 3 _ (by decide), Option.bind_some]
  dsimp only [List.set]
  rw [A, P 0 0 _ _ _ _ _ _ 4 _ (by decide), Option.bind_some]
  dsimp only [List.set]
  rw [A, P 0 0 _ _ _ _ _ _ 5 _ (by decide), Option.bind_some]
  dsimp only [List.set]
  rw [A, P 0 0 _ _ _ _ _ _ 6 _ (by decide), Option.bind_some]
  dsimp only [List.set]
  simp only [Ln, List.nil_append, List.cons_append, List.length_cons, List.length_nil, Nat.reduceAdd, Nat.zero_add]
theorem rd_init (r : zE) (g l : zH) (a b : Nat) : zev r i_X3_init 0 [some (.ref (r.1 + g.length)), some (.ref a), some (.ref b)] [] (g ++ .inr (.inr (3, [.null, .null, .int 0])) :: l) = some (none, g ++ .inr (.inr (3, [.ref a, .ref b, .int 0])) :: l) := by
  have P : ∀ (v0 v1 v2 : Value) (f : Nat) (v : Value), f < 3 → zpF r (g ++ .inr (.inr (3, [v0, v1, v2])) :: l) (r.1 + g.length) 3 f v = some (g ++ .inr (.inr (3, [v0, v1, v2].set f v)) :: l) := fun v0 v1 v2 f v hf => zpF_mid hf
  rw [E_X3_init_0, P _ _ _ 2 _ (by decide), Option.bind_some]
  dsimp only [List.set]
  rw [P _ _ _ 0 _ (by decide), Option.bind_some]
  dsimp only [List.set]
  rw [P _ _ _ 1 _ (by decide), Option.bind_some]
  dsimp only [List.set]
def zTf (r : zE) (t : zH) (b : Nat) (s : zRd) : zH := [.inr (.inr (3, [.ref b, .ref (r.1 + (51 + t.length + 1)), .int (nI s.1)])), .inr (.inr (1, [.int (nI s.2.1), .int (nI s.2.2.1), .ref (r.1 + (51 + t.length + 1) + 1), .ref (r.1 + (51 + t.length + 1) + 2), .ref (r.1 + (51 + t.length + 1) + 3), .ref (r.1 + (51 + t.length + 1) + 4), .ref (r.1 + (51 + t.length + 1) + 5)])), .inl (7, s.2.2.2.1), .inl (6, s.2.2.2.2.1), .inl (6, s.2.2.2.2.2.1), .inl (6, s.2.2.2.2.2.2.1), .inl (6, s.2.2.2.2.2.2.2)]
theorem rx_f {b e : Nat} {T : zA} (o4 : ∀ t, zob r (zmk r c0 c1 c2 I J Q N A Ga Va t) b 4 = true) (hs : ∀ t i, zev r i_X4_has 0 [some (.ref b), some (.int i)] [] (zmk r c0 c1 c2 I J Q N A Ga Va t) = some (some (.int (zhk e i)), zmk r c0 c1 c2 I J Q N A Ga Va t)) (hg : ∀ t i, zev r i_X4_get 0 [some (.ref b), some (.int i)] [] (zmk r c0 c1 c2 I J Q N A Ga Va t) = some (some (.int (if zhk e i = 0 then 0 else T i.toNatClampNeg)), zmk r c0 c1 c2 I J Q N A Ga Va t)) (hn : ∀ t, zgI r (zmk r c0 c1 c2 I J Q N A Ga Va t) b 4 1 = some (nI e)) : zRx r (r.1 + (51 + t.length + 0)) (r.1 + (51 + t.length + 1)) b e T (fun s => zmk r c0 c1 c2 I J Q N A Ga Va (t ++ zTf r t b s)) := by
  refine ⟨fun s => zob_of ((zmk_at (i := 0) (l := zTf r t b s)).trans rfl), fun s => zob_of ((zmk_at (i := 1) (l := zTf r t b s)).trans rfl), fun s => o4 _, fun s => zgR_of ((zmk_at (i := 0) (l := zTf r t b s)).trans rfl) rfl, fun s => zgR_of ((zmk_at (i := 0) (l := zTf r t b s)).trans rfl) rfl, fun s => zgI_of ((zmk_at (i := 0) (l := zTf r t b s)).trans rfl) rfl, fun s v => (zpF_of ((zmk_at (i := 0) (l := zTf r t b s)).trans rfl) (Nat.le_of_ble_eq_true rfl)).trans (congrArg some zmk_set), fun s => zgI_of ((zmk_at (i := 1) (l := zTf r t b s)).trans rfl) rfl, fun s => zgI_of ((zmk_at (i := 1) (l := zTf r t b s)).trans rfl) rfl, fun s v => (zpF_of ((zmk_at (i := 1) (l := zTf r t b s)).trans rfl) (Nat.le_of_ble_eq_true rfl)).trans (congrArg some zmk_set), fun s v => (zpF_of ((zmk_at (i := 1) (l := zTf r t b s)).trans rfl) (Nat.le_of_ble_eq_true rfl)).trans (congrArg some zmk_set), fun s => zgR_of ((zmk_at (i := 1) (l := zTf r t b s)).trans rfl) rfl, fun s => zgR_of ((zmk_at (i := 1) (l := zTf r t b s)).trans rfl) rfl, fun s => zgR_of ((zmk_at (i := 1) (l := zTf r t b s)).trans rfl) rfl, fun s => zgR_of ((zmk_at (i := 1) (l := zTf r t b s)).trans rfl) rfl, fun s => zgR_of ((zmk_at (i := 1) (l := zTf r t b s)).trans rfl) rfl, fun s j v hj => ?_, fun s j v hj => ?_, fun s j v hj => ?_, fun s j v hj => ?_, fun s j v hj => ?_, fun s i => hs _ i, fun s i => hg _ i, fun s => hn _⟩
  · exact (zsI_of (k := 51 + t.length + 2) ((zmk_at (i := 2) (l := zTf r t b s)).trans rfl) hj (by decide)).trans (congrArg some zmk_set)
  · exact (zsI_of (k := 51 + t.length + 3) ((zmk_at (i := 3) (l := zTf r t b s)).trans rfl) hj (by decide)).trans (congrArg some zmk_set)
  · exact (zsI_of (k := 51 + t.length + 4) ((zmk_at (i := 4) (l := zTf r t b s)).trans rfl) hj (by decide)).trans (congrArg some zmk_set)
  · exact (zsI_of (k := 51 + t.length + 5) ((zmk_at (i := 5) (l := zTf r t b s)).trans rfl) hj (by decide)).trans (congrArg some zmk_set)
  · exact (zsI_of (k := 51 + t.length + 6) ((zmk_at (i := 6) (l := zTf r t b s)).trans rfl) hj (by decide)).trans (congrArg some zmk_set)
def zTd (r : zE) (t : zH) (b : Nat) (s : zRd) : zH := [.inr (.inr (1, [.int (nI s.2.1), .int (nI s.2.2.1), .ref (r.1 + (51 + t.length + 0) + 1), .ref (r.1 + (51 + t.length + 0) + 2), .ref (r.1 + (51 + t.length + 0) + 3), .ref (r.1 + (51 + t.length + 0) + 4), .ref (r.1 + (51 + t.length + 0) + 5)])), .inl (7, s.2.2.2.1), .inl (6, s.2.2.2.2.1), .inl (6, s.2.2.2.2.2.1), .inl (6, s.2.2.2.2.2.2.1), .inl (6, s.2.2.2.2.2.2.2), .inr (.inr (3, [.ref b, .ref (r.1 + (51 + t.length + 0)), .int (nI s.1)]))]
theorem rx_d {b e : Nat} {T : zA} (o4 : ∀ t, zob r (zmk r c0 c1 c2 I J Q N A Ga Va t) b 4 = true) (hs : ∀ t i, zev r i_X4_has 0 [some (.ref b), some (.int i)] [] (zmk r c0 c1 c2 I J Q N A Ga Va t) = some (some (.int (zhk e i)), zmk r c0 c1 c2 I J Q N A Ga Va t)) (hg : ∀ t i, zev r i_X4_get 0 [some (.ref b), some (.int i)] [] (zmk r c0 c1 c2 I J Q N A Ga Va t) = some (some (.int (if zhk e i = 0 then 0 else T i.toNatClampNeg)), zmk r c0 c1 c2 I J Q N A Ga Va t)) (hn : ∀ t, zgI r (zmk r c0 c1 c2 I J Q N A Ga Va t) b 4 1 = some (nI e)) : zRx r (r.1 + (51 + t.length + 6)) (r.1 + (51 + t.length + 0)) b e T (fun s => zmk r c0 c1 c2 I J Q N A Ga Va (t ++ zTd r t b s)) := by
  refine ⟨fun s => zob_of ((zmk_at (i := 6) (l := zTd r t b s)).trans rfl), fun s => zob_of ((zmk_at (i := 0) (l := zTd r t b s)).trans rfl), fun s => o4 _, fun s => zgR_of ((zmk_at (i := 6) (l := zTd r t b s)).trans rfl) rfl, fun s => zgR_of ((zmk_at (i := 6) (l := zTd r t b s)).trans rfl) rfl, fun s => zgI_of ((zmk_at (i := 6) (l := zTd r t b s)).trans rfl) rfl, fun s v => (zpF_of ((zmk_at (i := 6) (l := zTd r t b s)).trans rfl) (Nat.le_of_ble_eq_true rfl)).trans (congrArg some zmk_set), fun s => zgI_of ((zmk_at (i := 0) (l := zTd r t b s)).trans rfl) rfl, fun s => zgI_of ((zmk_at (i := 0) (l := zTd r t b s)).trans rfl) rfl, fun s v => (zpF_of ((zmk_at (i := 0) (l := zTd r t b s)).trans rfl) (Nat.le_of_ble_eq_true rfl)).trans (congrArg some zmk_set), fun s v => (zpF_of ((zmk_at (i := 0) (l := zTd r t b s)).trans rfl) (Nat.le_of_ble_eq_true rfl)).trans (congrArg some zmk_set), fun s => zgR_of ((zmk_at (i := 0) (l := zTd r t b s)).trans rfl) rfl, fun s => zgR_of ((zmk_at (i := 0) (l := zTd r t b s)).trans rfl) rfl, fun s => zgR_of ((zmk_at (i := 0) (l := zTd r t b s)).trans rfl) rfl, fun s => zgR_of ((zmk_at (i := 0) (l := zTd r t b s)).trans rfl) rfl, fun s => zgR_of ((zmk_at (i := 0) (l := zTd r t b s)).trans rfl) rfl, fun s j v hj => ?_, fun s j v hj => ?_, fun s j v hj => ?_, fun s j v hj => ?_, fun s j v hj => ?_, fun s i => hs _ i, fun s i => hg _ i, fun s => hn _⟩
  · exact (zsI_of (k := 51 + t.length + 1) ((zmk_at (i := 1) (l := zTd r t b s)).trans rfl) hj (by decide)).trans (congrArg some zmk_set)
  · exact (zsI_of (k := 51 + t.length + 2) ((zmk_at (i := 2) (l := zTd r t b s)).trans rfl) hj (by decide)).trans (congrArg some zmk_set)
  · exact (zsI_of (k := 51 + t.length + 3) ((zmk_at (i := 3) (l := zTd r t b s)).trans rfl) hj (by decide)).trans (congrArg some zmk_set)
  · exact (zsI_of (k := 51 + t.length + 4) ((zmk_at (i := 4) (l := zTd r t b s)).trans rfl) hj (by decide)).trans (congrArg some zmk_set)
  · exact (zsI_of (k := 51 + t.length + 5) ((zmk_at (i := 5) (l := zTd r t b s)).trans rfl) hj (by decide)).trans (congrArg some zmk_set)
end TAIL
section DECK
variable {r : zE} {c0 c1 c2 : Nat} {I : Nat → Int32} {J : Nat → Int64} {Q : Nat → Nat → Int32} {N A : zBr} {Ga Va : Nat → Int32} {t : zH} {C : zCs} {c n : Nat}
theorem iv_read {d : Nat} {M : Nat → zDk} {K : Nat → Option (Nat × (Nat → zDk))} {W Tx : Nat → Option (List Int32)} {ta : Int32} {tu tl : Int64} {l : zH} (i : zIw r C d M K W Tx ta tu tl c I J Q N t) : zIw r C d M K W Tx ta tu tl c I J Q N (t ++ l) := by
  obtain ⟨h1, h2, rest⟩ := i
  exact ⟨h1, zCt_ap h2, rest⟩
theorem ct_d {b : Nat} {s : zRd} {C' : zCs} (h1 : C'.1 = s.2.1) (h2 : C'.2.1 = s.2.2.1) (i7 : s.2.1 ≤ 7) (i6 : s.2.2.1 ≤ 6) (hP : ∀ i, i < C'.1 → s.2.2.2.1 i = C'.2.2.1 i) (hK : ∀ i, i < C'.2.1 → s.2.2.2.2.1 i = C'.2.2.2.1 i) (hW : ∀ i, i < C'.2.1 → s.2.2.2.2.2.2.1 i = C'.2.2.2.2.1 i) (hM : ∀ i, i < C'.2.1 → s.2.2.2.2.2.2.2 i = C'.2.2.2.2.2 i) : zCt r (t ++ zTd r t b s) (51 + t.length) C' := fun c0 c1 c2 I J Q N A Ga Va => by
  have e0 : (zmk r c0 c1 c2 I J Q N A Ga Va (t ++ zTd r t b s))[51 + t.length]? = some (.inr (.inr (1, [.int (nI s.2.1), .int (nI s.2.2.1), .ref (r.1 + (51 + t.length + 0) + 1), .ref (r.1 + (51 + t.length + 0) + 2), .ref (r.1 + (51 + t.length + 0) + 3), .ref (r.1 + (51 + t.length + 0) + 4), .ref (r.1 + (51 + t.length + 0) + 5)]))) := zmk_at (i := 0)
  have e1 : (zmk r c0 c1 c2 I J Q N A Ga Va (t ++ zTd r t b s))[51 + t.length + 1]? = some (.inl (7, s.2.2.2.1)) := zmk_at (i := 1)
  have e2 : (zmk r c0 c1 c2 I J Q N A Ga Va (t ++ zTd r t b s))[51 + t.length + 2]? = some (.inl (6, s.2.2.2.2.1)) := zmk_at (i := 2)
  have e4 : (zmk r c0 c1 c2 I J Q N A Ga Va (t ++ zTd r t b s))[51 + t.length + 4]? = some (.inl (6, s.2.2.2.2.2.2.1)) := zmk_at (i := 4)
  have e5 : (zmk r c0 c1 c2 I J Q N A Ga Va (t ++ zTd r t b s))[51 + t.length + 5]? = some (.inl (6, s.2.2.2.2.2.2.2)) := zmk_at (i := 5)
  refine ⟨zob_of e0, ?_, ?_, zgR_of e0 rfl, zgR_of e0 rfl, zgR_of e0 rfl, zgR_of e0 rfl, fun j hj => ?_, fun j hj => ?_, fun j hj => ?_, fun j hj => ?_⟩
  · rw [h1]; exact zgI_of e0 rfl
  · rw [h2]; exact zgI_of e0 rfl
  · rw [← hP j hj]; exact zaI_of e1 (by omega) (by decide)
  · rw [← hK j hj]; exact zaI_of e2 (by omega) (by decide)
  · rw [← hW j hj]; exact zaI_of e4 (by omega) (by decide)
  · rw [← hM j hj]; exact zaI_of e5 (by omega) (by decide)
theorem k_begin {b : Nat} {s : zRd} (k : zCk C) (hC : zCt r (t ++ zTd r t b s) (51 + t.length) C) : ∃ N' : zBr, zev r i_X0_begin 0 [some (.ref (r.1 + 9)), some (.ref (r.1 + (51 + t.length)))] [] (zmk r c0 c1 c2 I J Q N A Ga Va (t ++ zTd r t b s)) = some (none, zmk r c0 (51 + t.length) c2 I J Q N' A Ga Va (t ++ zTd r t b s)) ∧ zCG C N'.1 N'.2.1 ∧ ∀ m, m < C.2.1 → N'.1 m = nI m ∧ N'.2.2.1 m = s.2.2.2.2.2.1 m ∧ N'.2.2.2 m = 0 := by
  have k2 := k.2.1
  have bx := nBx (r := r) (c0 := c0) (c2 := c2) (I := I) (J := J) (Q := Q) (A := A) (Ga := Ga) (Va := Va) hC
  obtain ⟨H', G', e1, h1, g1⟩ := b_first bx k (B := (N.1, N.2.1, va_cpy s.2.2.2.2.2.1 N.2.2.1 0 0 6, fun i => if i < 6 then 0 else N.2.2.2 i))
  have f1 : ∀ N : zBr, zgR r (zmk r c0 (51 + t.length) c2 I J Q N A Ga Va (t ++ zTd r t b s)) (r.1 + (51 + t.length)) 1 4 = some (r.1 + (51 + t.length + 3)) := fun N => zgR_of (zmk_at (i := 0)) rfl
  have p1 : zcp r (zmk r c0 (51 + t.length) c2 I J Q N A Ga Va (t ++ zTd r t b s)) (r.1 + (51 + t.length + 3)) 0 (r.1 + 12) 0 6 = some (zmk r c0 (51 + t.length) c2 I J Q (N.1, N.2.1, va_cpy s.2.2.2.2.2.1 N.2.2.1 0 0 6, N.2.2.2) A Ga Va (t ++ zTd r t b s)) := by
    have : (zmk r c0 (51 + t.length) c2 I J Q N A Ga Va (t ++ zTd r t b s))[51 + t.length + 3]? = some (.inl (6, s.2.2.2.2.2.1)) := zmk_at (i := 3)
    rw [nI_0', show (6 : Int32) = nI 6 from rfl, zcp_of this mc_12 (by decide) (by decide) (by decide) (by decide), ms_12]
  have p2 := z_fill r (n := 6) (a := r.1 + 13) (fun f => zmk r c0 (51 + t.length) c2 I J Q (N.1, N.2.1, va_cpy s.2.2.2.2.2.1 N.2.2.1 0 0 6, f) A Ga Va (t ++ zTd r t b s)) (by decide) (fun f => mn_13) (fun f k y hk => mw_13 hk) N.2.2.2 0
  refine ⟨(H', G', va_cpy s.2.2.2.2.2.1 N.2.2.1 0 0 6, fun i => if i < 6 then 0 else N.2.2.2 i), ?_, g1, fun m hm => ⟨h1 m hm, cpy_in (by omega), if_pos (by omega)⟩⟩
  simp only [E_X0_begin_0, mp_9_0, Option.bind_some, f1, mg_9_3, p1, mg_9_4, p2, zcV_some, mo_9, if_true, e1]
theorem k_d80 {c' : Nat} (hC : zCt r t c' C) (a : Int32) (l2 : Nat) : zev r i_X5_deck 80 [some (.ref (r.1 + 0)), some (.int a), some (.ref l2), some (.ref (r.1 + c')), some (.int 0)] [] (zmk r c0 c1 c2 I J Q N A Ga Va t) = some (some (.int (nI C.2.1)), (zmk r c0 c1 c2 (va_up (va_up (va_up I 3 (-1)) 4 (-1)) 5 (-1)) J Q N A Ga Va t)) := by
  have := zloop (fun j (I : zA) => zev r i_X5_deck 80 [some (.ref (r.1 + 0)), some (.int a), some (.ref l2), some (.ref (r.1 + c')), some (.int (nI j))] [] (zmk r c0 c1 c2 I J Q N A Ga Va t)) (fun I => some (some (.int (nI C.2.1)), zmk r c0 c1 c2 I J Q N A Ga Va t)) (fun I j => va_up I (3 + j) (-1)) 3 (fun j I hj => by
    refine (E_X5_deck_80 ..).trans ?_
    simp only [mo_0, mg_0_0, mg_0_1, mg_0_2, mg_0_3, mg_0_4, mg_0_5, mg_0_6, mg_0_7, mg_0_8, mg_0_9, mg_0_10, mg_0_11, mn_21, Option.bind_some, nI_of0, if_pos (nI_lt hj (show 3 < 2 ^ 31 by decide)), mq_21 hj, mo_k hj, if_true, E_X2_discard_0, mps_k hj, zcV_some, nI_1]) (fun I => by
    refine (E_X5_deck_80 ..).trans ?_
    simp only [mo_0, mg_0_0, mg_0_1, mg_0_2, mg_0_3, mg_0_4, mg_0_5, mg_0_6, mg_0_7, mg_0_8, mg_0_9, mg_0_10, mg_0_11, mn_21, Option.bind_some, nI_of0, if_neg (show ¬ nI 3 < nI 3 by decide), (hC ..).2.2.1]) I
  exact this
end DECK
/-- a text, as places -/
def yTx (l : List Int32) : zA := fun i => l.getD i 0
/-- the crew that a text tells -/
def yCw (l : List Int32) : zCs := ((rAll (yTx l) l.length).2.2.1, (rAll (yTx l) l.length).2.2.2.1, (rAll (yTx l) l.length).2.2.2.2.1, (rAll (yTx l) l.length).2.2.2.2.2.1, (rAll (yTx l) l.length).2.2.2.2.2.2.2.1, (rAll (yTx l) l.length).2.2.2.2.2.2.2.2)
/-- how it hangs at first -/
def yD0 (l : List Int32) : zDk := (fun m => nI m, (rAll (yTx l) l.length).2.2.2.2.2.2.1, fun _ => 0)
section CALLS13
variable {r : zE} {C : zCs} {d : Nat} {M : Nat → zDk} {K : Nat → Option (Nat × (Nat → zDk))} {W Tx : Nat → Option (List Int32)} {ta : Int32} {tu tl : Int64} {Ga Va : zA} {n : Nat} {h : zH}
theorem fg_c {T T' : zA} {n lo hi p : Nat} (e : ∀ i, i < n → T' i = T i) : rFg T' n lo hi p = rFg T n lo hi p := by
  unfold rFg
  by_cases c : p < n
  · rw [e p c]
  · simp [c]
theorem sk_c {T T' : zA} {n : Nat} (e : ∀ i, i < n → T' i = T i) : ∀ f p, rSk T' n f p = rSk T n f p
  | 0, p => rfl
  | f + 1, p => by
    rw [rSk, rSk]
    by_cases c : p < n
    · rw [if_pos c, if_pos c, e p c, sk_c e f]
    · rw [if_neg c, if_neg c]
theorem hk_c {T T' : zA} {n : Nat} (e : ∀ i, i < n → T' i = T i) : ∀ f s, rHk T' n f s = rHk T n f s
  | 0, s => rfl
  | f + 1, s => by
    rw [rHk, rHk]
    by_cases c : s.1 < n
    · rw [if_pos c, if_pos c, e _ c, hk_c e f]
    · rw [if_neg c, if_neg c]
theorem mn_c {T T' : zA} {n : Nat} (e : ∀ i, i < n → T' i = T i) {s : zRd} (h : s.1 < n) : rMn T' n s = rMn T n s := by
  unfold rMn
  rw [e _ h, fg_c e, fg_c e, fg_c e]
  by_cases c1 : rFg T n 1 9 (s.1 + 1) = true
  · by_cases c2 : rFg T n 0 1 (s.1 + 2) = true
    · by_cases c3 : rFg T n 0 3 (s.1 + 3) = true
      · rw [e _ (fig_of (by decide) (by decide) c1).1, e _ (fig_of (by decide) (by decide) c2).1, e _ (fig_of (by decide) (by decide) c3).1]
      · rw [if_neg c3, if_neg c3]
    · rw [if_neg c2, if_neg c2]
  · rw [if_neg c1, if_neg c1]
theorem ms_c {T T' : zA} {n : Nat} (e : ∀ i, i < n → T' i = T i) : ∀ f s, rMs T' n f s = rMs T n f s
  | 0, s => rfl
  | f + 1, s => by
    rw [rMs, rMs]
    by_cases c : s.1 < n
    · rw [if_pos c, if_pos c, mn_c e c, sk_c e, ms_c e f]
    · rw [if_neg c, if_neg c]
theorem go_c {T T' : zA} {n : Nat} (e : ∀ i, i < n → T' i = T i) (s : zRd) : rGo T' n s = rGo T n s := by
  unfold rGo
  by_cases c : s.1 < n
  · rw [e _ c, hk_c e]
  · rw [if_neg (fun q => c q.1), if_neg (fun q => c q.1)]
theorem all_c9 {T T' : zA} {n : Nat} (e : ∀ i, i < n → T' i = T i) : rAll T' n = rAll T n := by
  unfold rAll
  rw [go_c e, sk_c e, ms_c e, sk_c e]
theorem st_up {n' : Nat} (hn : n ≤ n') (st : zSt r C d M K W Tx ta tu tl Ga Va n h) : zSt r C d M K W Tx ta tu tl Ga Va (n') h := by
  obtain ⟨c, c2, I, J, Q, N, A, t, e, iv, t1, t2⟩ := st
  exact ⟨c, c2, I, J, Q, N, A, t, e, iv, by omega, by omega⟩
theorem ck_fault (E : zEk r) {j : Nat} {l : List Int32} (hj : j < 4) (hW : Tx j = some l) (st : zSt r C d M K W Tx ta tu tl Ga Va n h) : ∃ h', zev r i_X5_fault 0 [some (.ref (r.1 + 0)), some (.int (nI j)), none] [] h = some (some (.int (rAll (yTx l) l.length).1), h') ∧ zSt r C d M K W Tx ta tu tl Ga Va (n + 1) h' := by
  obtain ⟨c, c2, I, J, Q, N, A, t, rfl, iv, t1, t2⟩ := st
  obtain ⟨hm, s1, s3⟩ := rw_some (iv.2.2.2.2.2.2.2.2.1 j hj) hW
  have e : zhk 4 (nI j) = 1 := zhk_in hj (by decide)
  rw [← all_c9 (T := yTx l) (T' := Q (19 + j)) s3]
  generalize l.length = m at *
  have R := rx_f (r := r) (c0 := c) (c1 := c) (c2 := c2) (I := I) (J := J) (Q := Q) (N := N) (A := A) (Ga := Ga) (Va := Va) (t := t) (b := r.1 + 35 + 2 * j) (e := m) (T := Q (19 + j)) (fun t => mo_t hj) (fun t i => wt_has hj s1 i) (fun t i => wt_get hj s1 hm i) (fun t => by rw [mgs_t hj, s1])
  have er := rd_read R E hm
  rw [Nat.add_zero] at er
  have ei : ∀ g : zH, g = (zmk r c c c2 I J Q N A Ga Va t) → zcV (zev r i_X1_init 0 [some (.ref (r.1 + (g ++ [.inr (.inr (3, [.null, .null, .int 0]))] : zH).length))] [] (g ++ [.inr (.inr (3, [.null, .null, .int 0]))] ++ [.inr (.inr (1, [.int 0, .int 0, .null, .null, .null, .null, .null]))] : zH)) (fun h3 =>
    zcV (zev r i_X3_init 0 [some (.ref (r.1 + g.length)), some (.ref (r.1 + 35 + 2 * j)), some (.ref (r.1 + (g ++ [.inr (.inr (3, [.null, .null, .int 0]))] : zH).length))] [] h3) fun h4 =>
    if zob r h4 (r.1 + g.length) 3 = true then
    (zcI (zev r i_X3_read 0 [some (.ref (r.1 + g.length)), none, none] [] h4) fun v4 h5 =>
    (some (some (Value.int v4), h5) : Option zRes))
    else none) = some (some (Value.int (rAll (Q (19 + j)) m).1), zmk r c c c2 I J Q N A Ga Va (t ++ zTf r t (r.1 + 35 + 2 * j) (rAll (Q (19 + j)) m).2)) := fun g hg => by
    have gl : g.length = 51 + t.length := by rw [hg]; exact zmk_len
    rw [cr_init, zcV_some, List.length_append, List.append_assoc, List.cons_append, List.nil_append, rd_init, zcV_some]
    have eh : g ++ .inr (.inr (3, [.ref (r.1 + 35 + 2 * j), .ref (r.1 + (g.length + 1)), .int 0])) :: [.inr (.inr (1, [.int 0, .int 0, .ref (r.1 + (g.length + 1 + 1)), .ref (r.1 + (g.length + 1 + 2)), .ref (r.1 + (g.length + 1 + 3)), .ref (r.1 + (g.length + 1 + 4)), .ref (r.1 + (g.length + 1 + 5))])), .inl (7, fun _ => 0), .inl (6, fun _ => 0), .inl (6, fun _ => 0), .inl (6, fun _ => 0), .inl (6, fun _ => 0)] = zmk r c c c2 I J Q N A Ga Va (t ++ zTf r t (r.1 + 35 + 2 * j) (0, 0, 0, rZ)) := by
      rw [zmk_app, ← hg, gl]
      rfl
    rw [show ([.inr (.inr (3, [.null, .null, .int 0]))] : zH).length = 1 from rfl, eh, gl]
    exact (if_pos (R.1 (0, 0, 0, rZ))).trans (by rw [er, zcI_some])
  refine ⟨zmk r c c c2 I J Q N A Ga Va (t ++ zTf r t (r.1 + 35 + 2 * j) (rAll (Q (19 + j)) m).2), ?_, st_mk (iv_read iv) ?_ ?_⟩
  · simp only [E_X5_fault_0, mo_0, mg_0_0, mg_0_1, mg_0_2, mg_0_3, mg_0_4, mg_0_5, mg_0_6, mg_0_7, mg_0_8, mg_0_9, mg_0_10, mg_0_11, if_true, k_textAt, e, i01, if_false, zcQ_ref, nI_clamp (show j < 2 ^ 31 by omega), mo_t hj, wt_miss hj, s1, nI_m1 (show m < 2 ^ 31 by omega), zcI_some]
    exact ei _ rfl
  · rw [List.length_append]
    show t.length + 7 ≤ 7 * (n + 1)
    omega
  · rw [zhs_app]
    show zhs t + 41 ≤ 60 * (n + 1)
    omega
theorem ck_deck (E : zEk r) {j : Nat} {l : List Int32} (hj : j < 4) (hW : Tx j = some l) (ok : (rAll (yTx l) l.length).1 = -9) (l1 : ∀ m, m < (yCw l).2.1 → ∃ a, 1 ≤ a ∧ a < 10 ∧ (yD0 l).2.1 m = nI a) (st : zSt r C d M K W Tx ta tu tl Ga Va n h) : ∃ h', zev r i_X5_deck 0 [some (.ref (r.1 + 0)), some (.int (nI j)), none, none, none] [] h = some (some (.int (nI (yCw l).2.1)), h') ∧ zSt r (yCw l) (0) (fun _ => yD0 l) (fun _ => none) W Tx ta tu tl Ga Va (n + 1) h' := by
  obtain ⟨c, c2, I, J, Q, N, A, t, rfl, iv, t1, t2⟩ := st
  obtain ⟨hm, s1, s3⟩ := rw_some (iv.2.2.2.2.2.2.2.2.1 j hj) hW
  have e : zhk 4 (nI j) = 1 := zhk_in hj (by decide)
  have ac := all_c9 (T := yTx l) (T' := Q (19 + j)) s3
  unfold yD0 at *
  unfold yCw at *
  rw [← ac] at ok l1 ⊢
  generalize l.length = m at *
  have R := rx_d (r := r) (c0 := c) (c1 := c) (c2 := c2) (I := I) (J := J) (Q := Q) (N := N) (A := A) (Ga := Ga) (Va := Va) (t := t) (b := r.1 + 35 + 2 * j) (e := m) (T := Q (19 + j)) (fun t => mo_t hj) (fun t i => wt_has hj s1 i) (fun t i => wt_get hj s1 hm i) (fun t => by rw [mgs_t hj, s1])
  have er := rd_read R E hm
  obtain ⟨iR, iN⟩ := rAll_I (T := Q (19 + j)) hm
  have ei : ∀ (g : zH) (K : Int32 → zH → Option zRes), g = (zmk r c c c2 I J Q N A Ga Va t) → zcV (zev r i_X1_init 0 [some (.ref (r.1 + g.length))] [] (g ++ [.inr (.inr (1, [.int 0, .int 0, .null, .null, .null, .null, .null]))] : zH)) (fun h3 =>
    zcV (zev r i_X3_init 0 [some (.ref (r.1 + h3.length)), some (.ref (r.1 + 35 + 2 * j)), some (.ref (r.1 + g.length))] [] (h3 ++ [.inr (.inr (3, [.null, .null, .int 0]))] : zH)) fun h4 =>
    if zob r h4 (r.1 + h3.length) 3 = true then
    (zcI (zev r i_X3_read 0 [some (.ref (r.1 + h3.length)), none, none] [] h4) K)
    else none) = K (rAll (Q (19 + j)) m).1 (zmk r c c c2 I J Q N A Ga Va (t ++ zTd r t (r.1 + 35 + 2 * j) (rAll (Q (19 + j)) m).2)) := fun g K hg => by
    have gl : g.length = 51 + t.length := by rw [hg]; exact zmk_len
    rw [cr_init, zcV_some, rd_init, zcV_some, List.append_assoc]
    have eh : g ++ ([.inr (.inr (1, [.int 0, .int 0, .ref (r.1 + (g.length + 1)), .ref (r.1 + (g.length + 2)), .ref (r.1 + (g.length + 3)), .ref (r.1 + (g.length + 4)), .ref (r.1 + (g.length + 5))])), .inl (7, fun _ => 0), .inl (6, fun _ => 0), .inl (6, fun _ => 0), .inl (6, fun _ => 0), .inl (6, fun _ => 0)] ++ [.inr (.inr (3, [.ref (r.1 + 35 + 2 * j), .ref (r.1 + g.length), .int 0]))]) = zmk r c c c2 I J Q N A Ga Va (t ++ zTd r t (r.1 + 35 + 2 * j) (0, 0, 0, rZ)) := by
      rw [zmk_app, ← hg, gl]
      rfl
    rw [eh, List.length_append, gl]
    exact (if_pos (R.1 (0, 0, 0, rZ))).trans ((congrArg (fun q => zcI q K) er).trans zcI_some)
  have t1' : ∀ s, (t ++ zTd r t (r.1 + 35 + 2 * j) s).length ≤ 7 * (n + 1) := fun s => by
    rw [List.length_append]
    show t.length + 7 ≤ 7 * (n + 1)
    omega
  have t2' : ∀ s, zhs (t ++ zTd r t (r.1 + 35 + 2 * j) s) ≤ 60 * (n + 1) := fun s => by
    rw [zhs_app]
    show zhs t + 41 ≤ 60 * (n + 1)
    omega
  obtain ⟨j1, j2, j3, j4, j5, j6⟩ := iR
  generalize (rAll (Q (19 + j)) m).1 = v at *
  generalize (rAll (Q (19 + j)) m).2 = s at *
  have kC : zCk (s.2.1, s.2.2.1, s.2.2.2.1, s.2.2.2.2.1, s.2.2.2.2.2.2.1, s.2.2.2.2.2.2.2) := ⟨j2, j3, j4, j5, fun i hi => (j6 i hi).1⟩
  have hC' : zCt r (t ++ zTd r t (r.1 + 35 + 2 * j) s) (51 + t.length) (s.2.1, s.2.2.1, s.2.2.2.1, s.2.2.2.2.1, s.2.2.2.2.2.2.1, s.2.2.2.2.2.2.2) := ct_d rfl rfl j2 j3 (fun i hi => rfl) (fun i hi => rfl) (fun i hi => rfl) (fun i hi => rfl)
  obtain ⟨N', eb, cg, bn⟩ := k_begin (c0 := 51 + t.length) (c1 := c) (c2 := c2) (I := I) (J := J) (Q := Q) (N := N) (A := A) (Ga := Ga) (Va := Va) kC hC'
  have gw := g_write (r := r) (c0 := 51 + t.length) (c1 := 51 + t.length) (c2 := c2) (I := va_up I 2 0) (J := J) (Q := Q) (N := N') (A := A) (Ga := Ga) (Va := Va) (t := t ++ zTd r t (r.1 + 35 + 2 * j) s) (b := 0) (by decide)
  rw [show nI 0 = (0 : Int32) from rfl] at gw
  have e8 := k_d80 (r := r) (c0 := 51 + t.length) (c1 := 51 + t.length) (c2 := c2) (I := va_up I 2 0) (J := J) (Q := va_up Q 9 (zWr (Q 9) N' 0)) (N := N') (A := A) (Ga := Ga) (Va := Va) hC' (nI j) (r.1 + 35 + 2 * j)
  obtain ⟨-, -, no, de, hd, hp, ke, ro, te, ha, hu, hl⟩ := iv
  have i6 : ∀ i, 6 ≤ i → va_up (va_up (va_up (va_up I 2 0) 3 (-1)) 4 (-1)) 5 (-1) i = I i := fun i hi => by
    rw [va_ne (by omega), va_ne (by omega), va_ne (by omega), va_ne (by omega)]
  have dn : zDe (s.2.1, s.2.2.1, s.2.2.2.1, s.2.2.2.2.1, s.2.2.2.2.2.2.1, s.2.2.2.2.2.2.2) N' (fun m => nI m, s.2.2.2.2.2.1, fun _ => 0) := bn
  have iv' : zIw r (s.2.1, s.2.2.1, s.2.2.2.1, s.2.2.2.2.1, s.2.2.2.2.2.2.1, s.2.2.2.2.2.2.2) 0 (fun _ => (fun m => nI m, s.2.2.2.2.2.1, fun _ => 0)) (fun _ => none) W Tx ta tu tl (51 + t.length) (va_up (va_up (va_up (va_up I 2 0) 3 (-1)) 4 (-1)) 5 (-1)) J (va_up Q 9 (zWr (Q 9) N' 0)) N' (t ++ zTd r t (r.1 + 35 + 2 * j) s) := by
    refine ⟨kC, hC', ⟨cg, l1_lk (l1_c (fun i hi => (bn i hi).2.1) l1), trivial⟩, dn, rfl, ?_, fun k hk => ?_, fun k hk => ?_, fun k hk => ?_, ?_, hu, hl⟩
    · rw [va_same]
      refine ⟨by decide, fun p hp => ?_⟩
      have p0 : p = 0 := by omega
      subst p0
      refine ⟨⟨vi_c (fun i hi => ((bn i hi).1).symm) (cg_vi kC cg), l1, fun i hi => ⟨0, by decide, rfl⟩⟩, fun i hi => ?_⟩
      have hi6 : i < 6 := Nat.lt_of_lt_of_le hi j3
      obtain ⟨b1, b2, b3⟩ := bn i hi
      have z1 := zWr_h (Q 9) N' 0 hi6
      have z2 := zWr_l (Q 9) N' 0 hi6
      have z3 := zWr_t (Q 9) N' 0 hi6
      rw [show 18 * 0 + i = 0 + i by omega, show 18 * 0 + (6 + i) = 0 + (6 + i) by omega, show 18 * 0 + (12 + i) = 0 + (12 + i) by omega, z1, z2, z3]
      exact ⟨b1, b2, b3⟩
    · show va_up (va_up (va_up (va_up I 2 0) 3 (-1)) 4 (-1)) 5 (-1) (3 + k) = -1
      match k, hk with
      | 0, _ => rfl
      | 1, _ => rfl
      | 2, _ => rfl
      | k + 3, h => exact absurd h (by omega)
    · rw [i6 _ (by omega), va_ne (by omega)]; exact ro k hk
    · rw [i6 _ (by omega), va_ne (by omega)]; exact te k hk
    · rw [va_ne (by decide), va_ne (by decide), va_ne (by decide), va_ne (by decide)]; exact ha
  refine ⟨zmk r (51 + t.length) (51 + t.length) c2 (va_up (va_up (va_up (va_up I 2 0) 3 (-1)) 4 (-1)) 5 (-1)) J (va_up Q 9 (zWr (Q 9) N' 0)) N' A Ga Va (t ++ zTd r t (r.1 + 35 + 2 * j) s), ?_, ⟨_, _, _, _, _, _, _, _, rfl, iv', t1' s, t2' s⟩⟩
  simp only [E_X5_deck_0, mo_0, mg_0_0, mg_0_1, mg_0_2, mg_0_3, mg_0_4, mg_0_5, mg_0_6, mg_0_7, mg_0_8, mg_0_9, mg_0_10, mg_0_11, if_true, k_textAt, e, i01, if_false, zcQ_ref, nI_clamp (show j < 2 ^ 31 by omega), mo_t hj, wt_miss hj, s1, nI_m1 (show m < 2 ^ 31 by omega), zcI_some]
  refine (ei _ _ rfl).trans ?_
  rw [if_pos ok, zmk_len]
  simp only [mp_0_2, Option.bind_some, mo_0, mg_0_0, mg_0_1, mg_0_2, mg_0_3, mg_0_4, mg_0_5, mg_0_6, mg_0_7, mg_0_8, mg_0_9, mg_0_10, mg_0_11, mo_9, if_true, eb, zcV_some, mo_19, E_X2_begin_0, mp_19_1, mg_19_0, gw]
  exact e8
end CALLS13
