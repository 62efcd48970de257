/-! the walk -/
/-- how a method ends -/
def zOut (mi pc : Nat) (v : Option Value) : Prop :=
  (∃ x : Int32, v = some (.int x) ∧ decode (zB mi) pc = .ok (.ireturn, 1) ∧ (zRt mi = some .int ∨ zRt mi = some .boolean ∧ (x = 0 ∨ x = 1))) ∨
  (∃ x : Int64, v = some (.long x) ∧ decode (zB mi) pc = .ok (.lreturn, 1) ∧ zRt mi = some .long) ∨
  (∃ x : Option Nat, v = some (va_rf x) ∧ decode (zB mi) pc = .ok (.areturn, 1) ∧ zRt mi = some (.object RX4)) ∨
  (v = none ∧ decode (zB mi) pc = .ok (.return_, 1) ∧ zRt mi = none)
def zFix (G : zG) (p : Program) (s : State) (m : MethodId) (args : Array Value) (meth : Method) (c : Code) (mi : Nat) : Prop :=
  p.tables.exec = Jvm.exec ∧ c.code = zB mi ∧ c.maxLocals = zMl mi ∧ s.vm.findClass (zY mi).cls = some m.cls ∧ (∀ w ∈ zgt, w.before args s = true) ∧ zKS G s ∧ ((zY mi).name = "<init>" → meth.name = "<init>")
/-- from here the method comes to its end with v, and the heap is g -/
def zGo (l : Launch) (G : zG) (r : zE) (mi : Nat) (v : Option Value) (g : zH) (pc : Nat) (lv : List (Option Value)) (st : List Value) (h : zH) : Prop :=
  (h.length ≤ g.length ∧ zhs h ≤ zhs g) ∧
  ∀ {p : Program} {e : Env} {R : Room} {s : State} {m : MethodId} {args : Array Value} {below : List Frame} {meth : Method} {c : Code} {Q : State → Prop} {H : Heap} {locs : List Loc} {cells slots k n : Nat} {ls : Array Slot},
    zFix G p s m args meth c mi → zLV ls (zMl mi) lv → zHS G r s h H → (∀ q ∈ locs, r.1 ≤ q.base) → k + h.length = cells + g.length → n + zhs h = slots + zhs g → k ≤ R.cells → n ≤ R.slots → zFr mi ≤ R.frames → zLo mi ≤ R.locals →
    (∀ (pc' : Nat) (ls' : Array Slot) (H' : Heap) (locs' : List Loc), zOut mi pc' v → zHS G r s g H' → (∀ q ∈ locs', r.1 ≤ q.base) → W p l e R s m args below meth c H' locs' k n Q (F0 m pc' ls' v.toList)) →
    W p l e R s m args below meth c H locs cells slots Q (F0 m pc ls st)
section GO
variable {l : Launch} {G : zG} {r : zE} {mi : Nat} {v : Option Value} {g : zH} {pc : Nat} {lv : List (Option Value)} {st : List Value} {h : zH}
/-- a row that moves neither heap nor locals -/
theorem zGo.row {pc2 : Nat} {st2 : List Value}
    (hrow : ∀ {p : Program} {e : Env} {R : Room} {s : State} {m : MethodId} {args : Array Value} {below : List Frame} {meth : Method} {c : Code} {Q : State → Prop} {H : Heap} {locs : List Loc} {cells slots : Nat} {ls : Array Slot}, zFix G p s m args meth c mi → zLV ls (zMl mi) lv → zHS G r s h H → zFr mi ≤ R.frames → zLo mi ≤ R.locals → W p l e R s m args below meth c H locs cells slots Q (F0 m pc2 ls st2) → W p l e R s m args below meth c H locs cells slots Q (F0 m pc ls st))
    (k : zGo l G r mi v g pc2 lv st2 h) : zGo l G r mi v g pc lv st h :=
  ⟨k.1, fun hF hL hH hl e1 e2 h1 h2 hf ho hr => hrow hF hL hH hf ho (k.2 hF hL hH hl e1 e2 h1 h2 hf ho hr)⟩
/-- a row that writes a local -/
theorem zGo.rowL {pc2 : Nat} {st2 : List Value} {lv2 : List (Option Value)}
    (hrow : ∀ {p : Program} {e : Env} {R : Room} {s : State} {m : MethodId} {args : Array Value} {below : List Frame} {meth : Method} {c : Code} {Q : State → Prop} {H : Heap} {locs : List Loc} {cells slots : Nat} {ls : Array Slot}, zFix G p s m args meth c mi → zLV ls (zMl mi) lv → (∀ ls2, zLV ls2 (zMl mi) lv2 → W p l e R s m args below meth c H locs cells slots Q (F0 m pc2 ls2 st2)) → W p l e R s m args below meth c H locs cells slots Q (F0 m pc ls st))
    (k : zGo l G r mi v g pc2 lv2 st2 h) : zGo l G r mi v g pc lv st h :=
  ⟨k.1, fun hF hL hH hl e1 e2 h1 h2 hf ho hr => hrow hF hL fun _ hL2 => k.2 hF hL2 hH hl e1 e2 h1 h2 hf ho hr⟩
theorem zGo.store {pc2 i : Nat} {t : List Value} {x : Value}
    (hrow : ∀ {p : Program} {e : Env} {R : Room} {s : State} {m : MethodId} {args : Array Value} {below : List Frame} {meth : Method} {c : Code} {Q : State → Prop} {H : Heap} {locs : List Loc} {cells slots nL : Nat} {ls : Array Slot} {al al' : List (Nat × Value)}, p.tables.exec = Jvm.exec → c.code = zB mi → lv_has ls nL al → i < nL → (i, x) :: al.filter (fun q => !(q.1 == i) && !(q.1 + 1 == i && q.2.category == 2)) = al' → (∀ ls2, lv_has ls2 nL al' → W p l e R s m args below meth c H locs cells slots Q (F0 m pc2 ls2 t)) → W p l e R s m args below meth c H locs cells slots Q (F0 m pc ls (x :: t)))
    (hi : i < lv.length) (k : zGo l G r mi v g pc2 ((zcl lv i).set i (some x)) t h) : zGo l G r mi v g pc lv (x :: t) h :=
  zGo.rowL (fun hF hL kk => hrow hF.1 hF.2.1 hL.has (by rw [← hL.2.1]; exact hi) rfl fun ls2 hs => kk ls2 (hL.of1 hi hs)) k
theorem zGo.store2 {pc2 i : Nat} {t : List Value} {x : Value}
    (hrow : ∀ {p : Program} {e : Env} {R : Room} {s : State} {m : MethodId} {args : Array Value} {below : List Frame} {meth : Method} {c : Code} {Q : State → Prop} {H : Heap} {locs : List Loc} {cells slots nL : Nat} {ls : Array Slot} {al al' : List (Nat × Value)}, p.tables.exec = Jvm.exec → c.code = zB mi → lv_has ls nL al → i + 1 < nL → (i, x) :: al.filter (fun q => !(q.1 == i) && (!(q.1 == i + 1) && !(q.1 + 1 == i && q.2.category == 2))) = al' → (∀ ls2, lv_has ls2 nL al' → W p l e R s m args below meth c H locs cells slots Q (F0 m pc2 ls2 t)) → W p l e R s m args below meth c H locs cells slots Q (F0 m pc ls (x :: t)))
    (hi : i + 1 < lv.length) (k : zGo l G r mi v g pc2 (((zcl lv i).set i (some x)).set (i + 1) none) t h) : zGo l G r mi v g pc lv (x :: t) h :=
  zGo.rowL (fun hF hL kk => hrow hF.1 hF.2.1 hL.has (by rw [← hL.2.1]; exact hi) rfl fun ls2 hs => kk ls2 (hL.of2 hi hs)) k
/-- a row that writes a cell -/
theorem zGo.write {pc2 : Nat} {st2 : List Value} {a : Nat} {c0 c1 : zC} (hz : zget r h a = some c0) (hc : zcs c1 = zcs c0)
    (hrow : ∀ {p : Program} {e : Env} {R : Room} {s : State} {m : MethodId} {args : Array Value} {below : List Frame} {meth : Method} {c : Code} {Q : State → Prop} {H : Heap} {locs : List Loc} {cells slots : Nat} {ls : Array Slot}, zFix G p s m args meth c mi → zLV ls (zMl mi) lv → zHS G r s h H → zFr mi ≤ R.frames → zLo mi ≤ R.locals →
      (∀ (H1 : Heap) (L : List Loc), va_at G.1 zcls (a, zenc G.2.1 G.2.2 c1) H1 → H1.size = H.size → (∀ q : Nat, q ≠ a → H1[q]? = H[q]?) → (∀ q ∈ L, q.base = a) → W p l e R s m args below meth c H1 (locs ++ L) cells slots Q (F0 m pc2 ls st2)) → W p l e R s m args below meth c H locs cells slots Q (F0 m pc ls st))
    (k : zGo l G r mi v g pc2 lv st2 (h.set (a - r.1) c1)) : zGo l G r mi v g pc lv st h := by
  obtain ⟨ha, hk, he⟩ := zget_inv hz
  have hlt := (List.getElem?_eq_some_iff.mp hk).1
  have hsz := zhs_set hc h _ hk
  refine ⟨by have := k.1; rwa [List.length_set, hsz] at this, fun hF hL hH hl e1 e2 h1 h2 hf ho hr => hrow hF hL hH hf ho fun H1 L g1 g2 g3 g4 => ?_⟩
  refine k.2 hF hL (hH.set hlt (by rw [he]; exact g1) g2 (by rw [he]; exact g3)) (fun q hq => ?_) (by rw [List.length_set]; exact e1) (by rw [hsz]; exact e2) h1 h2 hf ho hr
  rcases List.mem_append.mp hq with hq | hq
  · exact hl q hq
  · rw [g4 q hq]; exact ha
/-- a row that makes a cell -/
theorem zGo.make {pc2 : Nat} {st2 : List Value} {c1 : zC}
    (hrow : ∀ {p : Program} {e : Env} {R : Room} {s : State} {m : MethodId} {args : Array Value} {below : List Frame} {meth : Method} {c : Code} {Q : State → Prop} {H : Heap} {locs : List Loc} {cells slots : Nat} {ls : Array Slot}, zFix G p s m args meth c mi → zLV ls (zMl mi) lv → zHS G r s h H → cells + 1 ≤ R.cells → slots + zcs c1 ≤ R.slots →
      (∀ (H1 : Heap), va_at G.1 zcls (H.size, zenc G.2.1 G.2.2 c1) H1 → H1.size = H.size + 1 → (∀ q : Nat, q < H.size → H1[q]? = H[q]?) → W p l e R s m args below meth c H1 locs (cells + 1) (slots + zcs c1) Q (F0 m pc2 ls st2)) → W p l e R s m args below meth c H locs cells slots Q (F0 m pc ls st))
    (k : zGo l G r mi v g pc2 lv st2 (h ++ [c1])) : zGo l G r mi v g pc lv st h := by
  have k1 := k.1
  rw [zhs_app, List.length_append, List.length_singleton] at k1
  simp only [zhs] at k1
  refine ⟨⟨by omega, by omega⟩, fun hF hL hH hl e1 e2 h1 h2 hf ho hr => hrow hF hL hH (by omega) (by omega) fun H1 g1 g2 g3 => ?_⟩
  refine k.2 hF hL (hH.push (by rw [← hH.1]; exact g1) g2 g3) hl (by rw [List.length_append, List.length_singleton]; omega) (by rw [zhs_app]; simp only [zhs]; omega) h1 h2 hf ho hr
end GO
theorem zA1 {n : Nat} {b : Bool} (h : ((n == 1) && b) = true) : n = 1 := by
  rw [Bool.and_eq_true] at h; exact of_decide_eq_true h.1
theorem zA2 {n : Nat} {b : Bool} (h : ((n == 2) && b) = true) : n = 2 := by
  rw [Bool.and_eq_true] at h; exact of_decide_eq_true h.1
theorem zA3 {n : Nat} {b : Bool} (h : ((n == 3) && b) = true) : n = 3 := by
  rw [Bool.and_eq_true] at h; exact of_decide_eq_true h.1
theorem zAdc {a : Bool} {p : Prop} [Decidable p] (h : (a && decide p) = true) : p := by
  rw [Bool.and_eq_true] at h; exact of_decide_eq_true h.2
