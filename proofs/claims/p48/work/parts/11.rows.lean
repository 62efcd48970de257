/-! facts of the classes' tables -/
theorem zcls_f {ci : Nat} {q : vw_C} (h : zcls[ci]? = some q) : (∀ w ∈ u_ws q.1 q.2.1 q.2.2, w ∈ zgt) ∧ (∀ k, k < q.2.2 → parseFieldDescriptor (q.2.1 k).2.2.1 = some (zty ci k)) ∧ (∀ a, a < q.2.2 → ∀ b, b < q.2.2 → a ≠ b → (q.2.1 a).2.1 ≠ (q.2.1 b).2.1) ∧ (∀ k, k < q.2.2 → (q.2.1 k).1 = q.1) ∧ Cond.instantiable q.1 q.2.2 ∈ zgt ∧ Cond.initialized q.1 ∈ zgt ∧ (∀ j, j < q.2.2 → defaultValue (zty ci j) = vp_V (zdf ci) j) ∧ (zdf ci).length = q.2.2 := by
  match ci, h with
  | 0, h => cases h; exact ⟨by decide +kernel, tyX0_ok, nmX0, by decide +kernel, by decide +kernel, by decide +kernel, by decide +kernel, by decide +kernel⟩
  | 1, h => cases h; exact ⟨by decide +kernel, tyX1_ok, nmX1, by decide +kernel, by decide +kernel, by decide +kernel, by decide +kernel, by decide +kernel⟩
  | 2, h => cases h; exact ⟨by decide +kernel, tyX2_ok, nmX2, by decide +kernel, by decide +kernel, by decide +kernel, by decide +kernel, by decide +kernel⟩
  | 3, h => cases h; exact ⟨by decide +kernel, tyX3_ok, nmX3, by decide +kernel, by decide +kernel, by decide +kernel, by decide +kernel, by decide +kernel⟩
  | 4, h => cases h; exact ⟨by decide +kernel, tyX4_ok, nmX4, by decide +kernel, by decide +kernel, by decide +kernel, by decide +kernel, by decide +kernel⟩
  | 5, h => cases h; exact ⟨by decide +kernel, tyX5_ok, nmX5, by decide +kernel, by decide +kernel, by decide +kernel, by decide +kernel, by decide +kernel⟩
  | k + 6, h => simp [zcls] at h
theorem zplain (mj : Nat) : plainName (zY mj).cls = true := by
  have h1 : ∀ y ∈ zYs, plainName y.cls = true := by decide +kernel
  have h2 : plainName yL_law.cls = true := by decide +kernel
  unfold zY
  rw [List.getD_eq_getElem?_getD]
  cases hq : zYs[mj]? with
  | none => exact h2
  | some y => exact h1 y (List.mem_of_getElem? hq)
section HR
variable {p : Program} {l : Launch} {e : Env} {R : Room} {s : State} {m : MethodId} {args : Array Value} {below : List Frame} {meth : Method} {c : Code} {H : Heap} {locs : List Loc} {cells slots : Nat} {Q : State → Prop}
variable {cc : ByteArray} {pc : Nat} {ls : Array Slot} {rest : List Value} {D : va_G} {tys : List (ClassId × FieldType)} {a : Nat}
theorem zP1 {x : Nat × va_E} (h : va_at D zcls x H) : va_P D zcls [x] H := fun k q hk => by
  have hlt := (List.getElem?_eq_some_iff.mp hk).1
  simp only [List.length_singleton] at hlt
  have : k = 0 := by omega
  subst this
  cases hk
  exact h
theorem zr_put (hexec : p.tables.exec = Jvm.exec) (hb : c.code = cc) {own : String} {ci index k : Nat} {q : vw_C} (hts : ∀ w ∈ zgt, w.before args s = true) (hown : s.vm.findClass own = some m.cls) (hK : va_K D zcls tys s) {fs : List Value} (hP : va_at D zcls (a, .inr (ci, fs)) H) (hc : zcls[ci]? = some q) (hk : k < q.2.2)
    (hlink : ((Cond.fieldLink own index q.1 (q.2.1 k).2.1 (q.2.1 k).2.2.1).before args s = true ∧ ((q.2.1 k).2.2.2 = false ∨ q.1 = own ∧ meth.name = "<init>")) ∨ ((Cond.fieldLinkNest own index q.1 (q.2.1 k).2.1 (q.2.1 k).2.2.1 "HammockDeck").before args s = true ∧ (q.2.1 k).2.2.2 = false))
    {v : Value} (hn : narrow (zty ci k) v = v) (hfit : fits (zty ci k) v = true) (hl : k < fs.length) (hdg : decode cc pc = .ok (.putfield index, 3))
    (kk : ∀ (H1 : Heap) (L : List Loc), va_at D zcls (a, .inr (ci, fs.set k v)) H1 → H1.size = H.size → (∀ q : Nat, q ≠ a → H1[q]? = H[q]?) → (∀ q ∈ L, q.base = a) → W p l e R s m args below meth c H1 (locs ++ L) cells slots Q (F0 m (pc + 3) ls rest)) : W p l e R s m args below meth c H locs cells slots Q (F0 m pc ls (v :: .ref a :: rest)) := by
  obtain ⟨hin, hty, hnm, hdecl, -, -, -, -⟩ := zcls_f hc
  have hap := va_apart (own := own) hts hin (zty ci) hty hnm hK hc
  obtain ⟨C, T, N⟩ := q
  obtain ⟨r, h1, cell, q1, q2, q3, q4⟩ := hP
  have hr : r = (C, T, N) := Option.some.inj (h1.symm.trans hc)
  subst hr
  obtain ⟨hS, hfc, kC, hkC, hkind⟩ := hK.1 ci _ hc
  obtain ⟨cf, kf, fi, f, hi, hsl⟩ := hS k hk
  have hi' : s.fieldFound? C (T k).2.1 (T k).2.2.1 = some (cf, kf, fi, f) := by
    have := hdecl k hk
    dsimp only at this hi
    rw [this] at hi
    exact hi
  have hst := (u_facts hfc hkC (u_lays hts hin hk) hi).1
  have fin : ∀ H' : Heap, H'[a]? = some (cell.setSlot f.slot v) → H'.size = H.size → (∀ q, q ≠ a → H'[q]? = H[q]?) → W p l e R s m args below meth c H' (locs ++ [⟨a, f.slot⟩]) cells slots Q (F0 m (pc + 3) ls rest) := by
    intro H' e1 e2 e3
    rw [hsl] at e1
    exact kk H' _ ⟨_, hc, t_OB.to (V := updV (vp_V fs) k v) ⟨_, e1, q2, q3, t_set q4 hap hk v⟩ (fun j _ => vp_updV_set hl v j)⟩ e2 e3 (fun z hz => by rw [List.mem_singleton.mp hz])
  have hlay := hts _ (hin _ (u_in_lay hk))
  unfold u_lay at hlay
  by_cases hfin : (T k).2.2.2 = false
  · rw [if_neg (by rw [hfin]; decide)] at hlay
    have h6 := u_store hfc hkC hkind hlay hi (hty k hk) hn hfit
    rcases hlink with ⟨hlink, -⟩ | ⟨hlink, -⟩
    · exact W.putK hexec hb (f := f) ⟨hown, hlink, ⟨_, _, _, hi'⟩, hst⟩ (by rw [q2]; exact h6) q1 q3 (by rw [hsl]; exact k2_hasslot (q4 k hk)) rfl rfl hdg fin
    · exact va_WputK hexec hb (f := f) hown hlink hi' hst (by rw [q2]; exact h6) q1 q3 (by rw [hsl]; exact k2_hasslot (q4 k hk)) rfl rfl hdg fin
  · rcases hlink with ⟨hlink, hf2⟩ | ⟨-, hf2⟩
    · rcases hf2 with hf2 | ⟨hf2, hin2⟩
      · exact absurd hf2 hfin
      · have hfin2 : (T k).2.2.2 = true := by cases hh : (T k).2.2.2 with | true => rfl | false => exact absurd hh hfin
        rw [if_pos hfin2] at hlay
        have hcf : m.cls = cf := by
          obtain ⟨_, _, c', _, _, _, -, -, hf', -, -, -, hown2, -⟩ := Cond.laysFinal_spec hlay
          have e1 : c' = cf := by have := hi.symm.trans hf'; simp at this; exact this.1.symm
          have e2 := hdecl k hk
          dsimp only at e2 hf2
          rw [e2, hf2] at hown2
          rw [← e1]; exact Option.some.inj (hown.symm.trans hown2)
        have h6 := u_fits hfc hkC hkind (Or.inr hlay) hi (hty k hk) hn hfit
        exact W.putFinK hexec hb hown hlink hi' hst hcf hin2 (by rw [q2]; exact h6) q1 q3 (by rw [hsl]; exact k2_hasslot (q4 k hk)) rfl rfl hdg fin
    · exact absurd hf2 hfin
theorem zr_iast (hexec : p.tables.exec = Jvm.exec) (hb : c.code = cc) {cA : ClassId} (hA : ArrOfT s cA .int) {n : Nat} {f : Nat → Int32} (hP : va_at D zcls (a, .inl (cA, n, .inl f)) H) {i x : Int32} (hin : vp_in i n) (hdg : decode cc pc = .ok (.iastore, 1))
    (kk : ∀ (H1 : Heap) (L : List Loc), va_at D zcls (a, .inl (cA, n, .inl (upd f i.toNatClampNeg x))) H1 → H1.size = H.size → (∀ q : Nat, q ≠ a → H1[q]? = H[q]?) → (∀ q ∈ L, q.base = a) → W p l e R s m args below meth c H1 (locs ++ L) cells slots Q (F0 m (pc + 1) ls rest)) : W p l e R s m args below meth c H locs cells slots Q (F0 m pc ls (.int x :: .int i :: .ref a :: rest)) := by
  refine W.iast hexec hb hP (hA n (fun j => .int (f j))) (fun q => by cases q) (by show ¬ (i < 0 ∨ (arrV _ _ _).slots.size ≤ _); rw [arrV_size]; exact hin) rfl rfl hdg fun H1 e z oq => ?_
  refine kk H1 _ ?_ z oq (fun z hz => by rw [List.mem_singleton.mp hz])
  show H1[a]? = some (vp_cell _ _)
  rw [e]
  rw [vp_cell_i, vp_cell_i, arrV_store]
  congr 2
  funext q
  by_cases hq : q = i.toNatClampNeg
  · subst hq
    simp [updV, upd]
  · simp [updV, upd, hq]
theorem zr_aast (hexec : p.tables.exec = Jvm.exec) (hb : c.code = cc) (hK : va_K D zcls tys s) {cA : ClassId} {ci n v : Nat} {q : vw_C} (hA : va_RA s cA (.object q.1)) {f : Nat → Option Nat} (hP : va_at D zcls (a, .inl (cA, n, .inr (.inr (.inr (.inr f))))) H) {vs : List Value} (hv : va_at D zcls (v, .inr (ci, vs)) H) (hc : zcls[ci]? = some q) {i : Int32} (hin : vp_in i n) (hdg : decode cc pc = .ok (.aastore, 1))
    (kk : ∀ (H1 : Heap) (L : List Loc), va_at D zcls (a, .inl (cA, n, .inr (.inr (.inr (.inr (va_up f i.toNatClampNeg (some v))))))) H1 → H1.size = H.size → (∀ q : Nat, q ≠ a → H1[q]? = H[q]?) → (∀ q ∈ L, q.base = a) → W p l e R s m args below meth c H1 (locs ++ L) cells slots Q (F0 m (pc + 1) ls rest)) : W p l e R s m args below meth c H locs cells slots Q (F0 m pc ls (.ref v :: .int i :: .ref a :: rest)) := by
  have hlt : i.toNatClampNeg < n := Nat.not_le.mp fun q => hin (Or.inr q)
  have h0 : ¬ i < 0 := fun q => hin (Or.inl q)
  obtain ⟨r', hr', cellV, g1, g2, g3, -⟩ := hv
  have hcls := (hK.1 ci q hc).2
  obtain ⟨kA, comp, k1, k2, k3, -⟩ := hA
  have hcomp : comp = D.1 ci := Option.some.inj (k3.symm.trans hcls.1)
  subst hcomp
  obtain ⟨kC, hkC, -⟩ := hcls.2
  refine W.aast hexec hb hP (fun q h => by cases h) (fun h => by cases h) k1 k2 rfl hkC ⟨h0, by show _ < (arrV _ _ _).slots.size; rw [arrV_size]; exact hlt⟩ g1 (fun q h => by rw [g3] at h; cases h) (by rw [g2]; exact hkC) (by rw [g2]; exact va_assign hcls) rfl rfl hdg fun H1 e z oq => ?_
  refine kk H1 _ ?_ z oq (fun z hz => by rw [List.mem_singleton.mp hz])
  show H1[a]? = some (vp_cell _ _)
  rw [e]
  rw [vp_cell_q, vp_cell_q, arrV_store]
  congr 2
  funext q
  by_cases hq : q = i.toNatClampNeg
  · subst hq
    simp [updV, va_up, va_rf]
  · simp [updV, va_up, hq]
theorem zr_newa (hexec : p.tables.exec = Jvm.exec) (hb : c.code = cc) (harr : (Cond.arrayClass .int).before args s = true) {aI : ClassId} (hI : s.vm.findClass ("[" ++ FieldType.int.toString) = some aI) {n : Int32} (hn : ¬ n < 0) (hm : n.toNatClampNeg ≤ 100000) (hcells : cells + 1 ≤ R.cells) (hslots : slots + n.toNatClampNeg ≤ R.slots) (hdg : decode cc pc = .ok (.newarray .int, 2))
    (kk : ∀ (H1 : Heap), va_at D zcls (H.size, .inl (aI, n.toNatClampNeg, .inl (fun _ => 0))) H1 → H1.size = H.size + 1 → (∀ q : Nat, q < H.size → H1[q]? = H[q]?) → W p l e R s m args below meth c H1 locs (cells + 1) (slots + n.toNatClampNeg) Q (F0 m (pc + 2) ls (.ref H.size :: rest))) : W p l e R s m args below meth c H locs cells slots Q (F0 m pc ls (.int n :: rest)) := by
  refine va_newaK hexec hb (atype := .int) harr rfl hdg rfl hn rfl (by show n.toNatClampNeg * 4 ≤ _; omega) hcells hslots rfl fun H1 cA e1 z1 o1 hAr hNm => ?_
  have hc : cA = aI := Option.some.inj (hNm.symm.trans hI)
  subst hc
  exact kk H1 e1 z1 o1
theorem zr_newq (hexec : p.tables.exec = Jvm.exec) (hb : c.code = cc) {own C : String} {index : Nat} (hown : s.vm.findClass own = some m.cls) (hclink : (Cond.classLink own index C).before args s = true) (hover : (Cond.arrayOver (.object C)).before args s = true) {aQ : ClassId} (hI : s.vm.findClass ("[" ++ (FieldType.object C).toString) = some aQ) {n : Int32} (hn : ¬ n < 0) (hm : n.toNatClampNeg ≤ 100000) (hcells : cells + 1 ≤ R.cells) (hslots : slots + n.toNatClampNeg ≤ R.slots) (hdg : decode cc pc = .ok (.anewarray index, 3))
    (kk : ∀ (H1 : Heap), va_at D zcls (H.size, .inl (aQ, n.toNatClampNeg, .inr (.inr (.inr (.inr (fun _ => none)))))) H1 → H1.size = H.size + 1 → (∀ q : Nat, q < H.size → H1[q]? = H[q]?) → W p l e R s m args below meth c H1 locs (cells + 1) (slots + n.toNatClampNeg) Q (F0 m (pc + 3) ls (.ref H.size :: rest))) : W p l e R s m args below meth c H locs cells slots Q (F0 m pc ls (.int n :: rest)) := by
  refine W.anew hexec hb hown hclink hover rfl hdg rfl hn (by omega) hcells hslots fun cA kA comp f1 f2 f3 f4 => ?_
  have hc : cA = aQ := Option.some.inj (f1.symm.trans hI)
  subst hc
  refine kk _ ?_ (by rw [Array.size_push]) (fun q hq => by rw [Array.getElem?_push, if_neg (Nat.ne_of_lt hq)])
  show (H.push _)[H.size]? = some (vp_cell _ _)
  rw [vp_cell_q, Array.getElem?_push_size, ← arrV_new]
  rfl
theorem zr_new (hexec : p.tables.exec = Jvm.exec) (hb : c.code = cc) {own : String} {ci index : Nat} {q : vw_C} (hts : ∀ w ∈ zgt, w.before args s = true) (hown : s.vm.findClass own = some m.cls) (hcl : (Cond.classLink own index q.1).before args s = true) (hK : va_K D zcls tys s) (hc : zcls[ci]? = some q) (hcells : cells + 1 ≤ R.cells) (hslots : slots + q.2.2 ≤ R.slots) (hdg : decode cc pc = .ok (.new index, 3))
    (kk : ∀ (H1 : Heap), va_at D zcls (H.size, .inr (ci, zdf ci)) H1 → H1.size = H.size + 1 → (∀ q : Nat, q < H.size → H1[q]? = H[q]?) → W p l e R s m args below meth c H1 locs (cells + 1) (slots + q.2.2) Q (F0 m (pc + 3) ls (.ref H.size :: rest))) : W p l e R s m args below meth c H locs cells slots Q (F0 m pc ls rest) := by
  obtain ⟨hin, hty, -, -, hinst, hini, hdf, -⟩ := zcls_f hc
  have hKn := hK.1 ci _ hc
  refine W.newcK hexec hb hown hcl (hts _ hinst) (hts _ hini) rfl hdg hcells hslots hKn.2.1 rfl fun H1 kC hkC e1 z1 o1 => ?_
  exact kk H1 ⟨_, hc, (u_born (zty ci) hts hin hKn hkC e1 hty).to hdf⟩ z1 o1
/-- behind a call -/
theorem zr_run {mc ms : Nat} {st0 : List Value} {Qa : State → Outcome → State → Prop} {free : Addr → Prop} (hr : va_Run p l e R s m args below meth c H locs cells slots mc ms (F0 m pc ls st0) rest Qa free)
    (kk : ∀ (v : Option Value) (st₀ t T' : State) (L : List Loc), s.vm.Alike t.vm → (∀ q ∈ L, free q.base) → Qa st₀ (.returned v) t → W p l e R s m args below meth c t.heap (locs ++ L) (cells + mc) (slots + ms) Q (F0 m (pc + 3) ls (v.toList ++ rest))) : W p l e R s m args below meth c H locs cells slots Q (F0 m pc ls st0) := by
  intro T hT X
  obtain ⟨v, st₀, t, T', L, h0, X', hL, e1, e2, hq, st⟩ := hr T hT X
  obtain ⟨t', a, b⟩ := kk v st₀ t T' L (by rw [← e2]; exact X'.warmed.alike) hL hq T' e1 X'
  exact ⟨t', st t' a, b⟩
end HR
/-- a method that runs keeps its contract -/
def zSnd (l : Launch) (G : zG) (r : zE) (n : Nat) : Prop := ∀ (mi pc : Nat) (lv : List (Option Value)) (st : List Value) (h : zH) (v : Option Value) (g : zH), zrun r n mi pc lv st h = some (v, g) → zGo l G r mi v g pc lv st h
theorem zWS.moved {G : zG} {r : zE} {h : zH} {s t : State} {H : Heap} (hH : zHS G r s h H) (ht : t.heap = H) (hW : s.WarmedH t.vm) : zHS G r t h t.heap := by rw [ht]; exact hH.moved hW.alike
theorem zMet {l : Launch} {G : zG} {r : zE} {n : Nat} (hS : zSnd l G r n) {mj : Nat} {as : List Value} {h g : zH} {v : Option Value} (hq : zrun r n mj 0 (zent (zMl mj) as) [] h = some (v, g)) (hlen : (zenl as).length ≤ zMl mj) :
    Met l (zY mj) (Cond.code (zY mj) (zB mj) (zMl mj) (zRt mj) :: zgt) { frames := zFr mj, cells := g.length - h.length, slots := zhs g - zhs h, locals := zLo mj } (va_Pc as (zWS G r h)) (fun _ _ o t => o = .returned v ∧ zHS G r t g t.heap) (g.length - h.length) (zhs g - zhs h) (fun q => r.1 ≤ q) := by
  refine Met.ofW (cc := zB mj) (maxL := zMl mj) (ret := zRt mj) (zplain mj) rfl ?_
  intro p e s m args below meth c s₁ B hml hv
  obtain ⟨rfl, hH, hK⟩ := hv
  have hx := B.exec
  have hb := B.bytes
  have hr := B.returns
  have hlocks := B.notSynchronized
  have hts := atoms_spec (ws := Cond.code (zY mj) (zB mj) (zMl mj) (zRt mj) :: zgt) B.pre
  have hown : s.vm.findClass (zY mj).cls = some m.cls := findClass_of_methodNamed B.named
  have k := hS _ _ _ _ _ _ _ hq
  obtain ⟨k1, k2⟩ := k
  rw [lg_entry_eq]
  refine k2 (k := g.length - h.length) (n := zhs g - zhs h) ⟨hx, hb, hml, hown, fun w hw => hts w (List.mem_cons_of_mem _ hw), hK, fun hn => by rw [(name_of_methodNamed B.named B.method).1]; exact hn⟩ (zent_lv as hlen) hH (fun q hq => by cases hq) (by omega) (by omega) (Nat.le_refl _) (Nat.le_refl _) (Nat.le_refl _) (Nat.le_refl _) (fun pc' ls' H' locs' ho hH' hl' => ?_)
  rcases ho with ⟨x, rfl, hd, hx2⟩ | ⟨x, rfl, hd, hx2⟩ | ⟨x, rfl, hd, hx2⟩ | ⟨rfl, hd, hx2⟩
  · rcases hx2 with hx2 | ⟨hx2, hx3⟩
    · exact W.iret (v := x) hx hb (hr.trans hx2) (fun t ht hW => ⟨rfl, zWS.moved hH' ht hW⟩) hl' hd
    · exact W.zret (v := x) (ty := .boolean) hx hb (hr.trans hx2) (by rcases hx3 with rfl | rfl <;> rfl) (fun t ht hW => ⟨rfl, zWS.moved hH' ht hW⟩) hl' hd
  · exact W.lret (v := x) hx hb (hr.trans hx2) (fun t ht hW => ⟨rfl, zWS.moved hH' ht hW⟩) hl' hd
  · exact W.aret (v := va_rf x) hx hb (hr.trans hx2) (Or.inl ⟨_, rfl⟩) (by cases x with | none => exact Or.inl rfl | some a => exact Or.inr ⟨a, rfl⟩) (fun t ht hW => ⟨rfl, zWS.moved hH' ht hW⟩) hl' hd
  · exact W.vret hx hb (hr.trans hx2) (fun t ht hW => ⟨rfl, zWS.moved hH' ht hW⟩) hl' hd
