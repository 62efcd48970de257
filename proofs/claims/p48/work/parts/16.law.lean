/-! THE CLAIM OUT OF ONE WALK OF THE LAW'S BODY. Your part is whole_start (and what it stands on); all else here is the same for every law, but numbers. -/
def R_law : String := "HammockDeckLaw"
def lw_P (b : Addr) (xs : List Int32) (args : Array Value) (s : State) : Prop := args = #[.ref b] ∧ s.IntsAt b xs ∧ xs.length ≤ 260 ∧ (Jvm.Cond.and given_1 narrow_1).before args s = true
def lw_Q (_ : Array Value) (s : State) (o : Outcome) (t : State) : Prop := o = .returned (some (.int 1)) ∧ Framed s o t [] 600000 7302250
def lw_Z (below : List Frame) (a : Array Value) (s : State) : State → Prop := fun t => ∃ o, t.status = .running ∧ Ended t below o ∧ lw_Q a s o t
/-- the law's own end, with 1 on the stack, nothing written that was there before, its room as the claim has it -/
theorem lw_ret {p : Program} {l : Launch} {e : Env} {s : State} {m : MethodId} {below : List Frame} {meth : Method} {c : Code} {b : Nat} (hx : p.tables.exec = Jvm.exec) (hb : c.code = code) (hr : meth.sig.returnType = ret) (hlocks : meth.locks = false) {pc : Nat} {H : Heap} {ls : Array Slot} (hdg : decode code pc = .ok (.ireturn, 1)) : W p l e room_1 s m #[Value.ref b] below meth c H [] 600000 7302250 (lw_Z below #[Value.ref b] s) (F0 m pc ls [.int 1]) := by
  intro T hT X
  obtain ⟨fs, hret, hrun, hended, hW, hframe⟩ := X.leave (v := some (.int 1)) (hlocks := hlocks) (fun h => by rw [hr] at h; cases h)
  have hmeth' : T.vm.method? m = some meth := X.method'
  refine ⟨T.setFrames fs, ?_, .returned (some (.int 1)), hrun, hended, rfl, ⟨_, rfl⟩, hW, hframe⟩
  jvm_step X.here [X.here.top, hx, hb, hdg, hmeth', hr, ret, narrow_b1]
  (try refine ⟨rfl, ?_⟩); (try refine ⟨rfl, ?_⟩)
  first | (intro acts; rw [hret _ acts rfl rfl rfl]) | rw [hret _ _ rfl rfl rfl]
  exact Steps.refl _
/-- what holds at the law's entry: the machine, the code, the tables' words (any of lw_tbl by 'hts w (by decide +kernel)'), the script of L ints xs at the cell b, what the Statement gives of the start (any of its parts by flat_of_before) -/
def lw_At (p : Program) (s : State) (m : MethodId) (meth : Method) (c : Code) (b L : Nat) (xs : Nat → Int32) : Prop :=
  p.tables.exec = Jvm.exec ∧ c.code = code ∧ meth.sig.returnType = ret ∧ c.maxLocals = 29 ∧ s.vm.findClass R_law = some m.cls ∧ (∀ w ∈ lw_tbl, w.before #[Value.ref b] s = true) ∧ va_X b L xs s s.heap ∧ b < s.heap.size ∧ meth.locks = false ∧ (Jvm.Cond.and given_1 narrow_1).before #[Value.ref b] s = true

/-- what the pure machine is given: the script, the tables of the class -/
def zKB : Nat → Int32 := fun j => [0, 1, 0, 0, 2, 0].getD j 0
def zKL : Nat → Int32 := fun j => [109, 116, 115, 102, 110, 105].getD j 0
def zPL : Nat → Int32 := fun j => [46, 100, 108, 117, 103].getD j 0
def zPW : Nat → Int32 := fun j => [0, 1, 3, 2, -1].getD j 0
def zEnv (r : zE) (b L : Nat) (xs : Nat → Int32) : Prop := ¬ r.1 ≤ b ∧ r.2.1 b = some (false, L, xs) ∧ (∀ i, i < 4 → ¬ r.1 ≤ r.2.2 i) ∧ r.2.1 (r.2.2 0) = some (false, 6, zKB) ∧ r.2.1 (r.2.2 1) = some (true, 6, zKL) ∧ r.2.1 (r.2.2 2) = some (true, 5, zPL) ∧ r.2.1 (r.2.2 3) = some (false, 5, zPW)
theorem zT_len {ty ty' : FieldType} {t N N' : Nat} {f f' : Nat → Value} {A : Nat → Prop} {U : State} {H : Heap} (h1 : va_T ty t N f A U H) (h2 : va_T ty' t N' f' A U H) : Int32.ofNat N = Int32.ofNat N' := by
  obtain ⟨c1, a1, -, -, -, b1, -⟩ := h1
  obtain ⟨c2, a2, -, -, -, b2, -⟩ := h2
  cases a1.symm.trans a2
  exact b1.symm.trans b2
theorem zT_ty {ty ty' : FieldType} {t N N' : Nat} {f f' : Nat → Value} {A : Nat → Prop} {U : State} {H : Heap} (h1 : va_T ty t N f A U H) (h2 : va_T ty' t N' f' A U H) : ty = ty' := by
  obtain ⟨c1, a1, ⟨-, k1, d1, e1, g1⟩, -⟩ := h1
  obtain ⟨c2, a2, ⟨-, k2, d2, e2, g2⟩, -⟩ := h2
  cases a1.symm.trans a2
  cases d1.symm.trans d2
  rw [g1] at g2
  cases g2
  rfl
set_option maxHeartbeats 4000000 in
set_option maxRecDepth 100000 in
theorem z_law {p : Program} {e : Env} {s : State} {m : MethodId} {below : List Frame} {meth : Method} {c : Code} (l : Launch) {b L : Nat} {xs : Nat → Int32} (C0 : lw_At p s m meth c b L xs) :
    ∃ r : zE, zEnv r b L xs ∧ ∀ g : zH, zev r 0 0 [some (.ref b), none, none, none, none, none, none, none, none, none, none, none, none, none, none, none, none, none, none, none, none, none, none, none, none, none, none, none, none] [] [] = some (some (.int 1), g) → g.length ≤ 600000 → zhs g ≤ 7302250 → W p l e room_1 s m #[Value.ref b] below meth c s.heap [] 0 0 (lw_Z below #[Value.ref b] s) (entryFrame m ([Value.ref b] : List Value).toArray 29) := by
  obtain ⟨hx, hb, hr, hml, hown, hts, hX, hbl, hlocks, hgv⟩ := id C0
  have hs := flat_of_before _ hgv
  have hA : ∀ a : Nat, a < s.heap.size → ¬ (fun x : Nat => s.heap.size ≤ x) a := fun a ha => Nat.not_le.mpr ha
  obtain ⟨t0, ht0, hT0⟩ := va_Tof (N := 6) (ty := .int) (tm := (.static "HammockDeck" "KIND_BULK" "[I")) (f := fun j => .int (zKB j)) (A := fun x : Nat => s.heap.size ≤ x) (s := s) (args := #[Value.ref b]) (by decide) (hs _ (by decide +kernel)) (va_eqt (hs (.eq (.length (.static "HammockDeck" "KIND_BULK" "[I")) (.int 6)) (by decide +kernel))) (fun j hj => by
    match j, hj with
    | 0, _ => exact va_eqt (hs (.eq (.elem (.static "HammockDeck" "KIND_BULK" "[I") (.int 0)) (.int 0)) (by decide +kernel))
    | 1, _ => exact va_eqt (hs (.eq (.elem (.static "HammockDeck" "KIND_BULK" "[I") (.int 1)) (.int 1)) (by decide +kernel))
    | 2, _ => exact va_eqt (hs (.eq (.elem (.static "HammockDeck" "KIND_BULK" "[I") (.int 2)) (.int 0)) (by decide +kernel))
    | 3, _ => exact va_eqt (hs (.eq (.elem (.static "HammockDeck" "KIND_BULK" "[I") (.int 3)) (.int 0)) (by decide +kernel))
    | 4, _ => exact va_eqt (hs (.eq (.elem (.static "HammockDeck" "KIND_BULK" "[I") (.int 4)) (.int 2)) (by decide +kernel))
    | 5, _ => exact va_eqt (hs (.eq (.elem (.static "HammockDeck" "KIND_BULK" "[I") (.int 5)) (.int 0)) (by decide +kernel))
    | k + 6, hj => omega) hA
  have hZ0 := va_Zref (A := fun x : Nat => s.heap.size ≤ x) (hts (.laysStatic "HammockDeck" "KIND_BULK" "[I") (by decide +kernel)) (hts (.initialized "HammockDeck") (by decide +kernel)) ht0 hA
  obtain ⟨t1, ht1, hT1⟩ := va_Tof (N := 6) (ty := .char) (tm := (.static "HammockDeck" "KIND_LETTERS" "[C")) (f := fun j => .int (zKL j)) (A := fun x : Nat => s.heap.size ≤ x) (s := s) (args := #[Value.ref b]) (by decide) (hs _ (by decide +kernel)) (va_eqt (hs (.eq (.length (.static "HammockDeck" "KIND_LETTERS" "[C")) (.int 6)) (by decide +kernel))) (fun j hj => by
    match j, hj with
    | 0, _ => exact va_eqt (hs (.eq (.elem (.static "HammockDeck" "KIND_LETTERS" "[C") (.int 0)) (.int 109)) (by decide +kernel))
    | 1, _ => exact va_eqt (hs (.eq (.elem (.static "HammockDeck" "KIND_LETTERS" "[C") (.int 1)) (.int 116)) (by decide +kernel))
    | 2, _ => exact va_eqt (hs (.eq (.elem (.static "HammockDeck" "KIND_LETTERS" "[C") (.int 2)) (.int 115)) (by decide +kernel))
    | 3, _ => exact va_eqt (hs (.eq (.elem (.static "HammockDeck" "KIND_LETTERS" "[C") (.int 3)) (.int 102)) (by decide +kernel))
    | 4, _ => exact va_eqt (hs (.eq (.elem (.static "HammockDeck" "KIND_LETTERS" "[C") (.int 4)) (.int 110)) (by decide +kernel))
    | 5, _ => exact va_eqt (hs (.eq (.elem (.static "HammockDeck" "KIND_LETTERS" "[C") (.int 5)) (.int 105)) (by decide +kernel))
    | k + 6, hj => omega) hA
  have hZ1 := va_Zref (A := fun x : Nat => s.heap.size ≤ x) (hts (.laysStatic "HammockDeck" "KIND_LETTERS" "[C") (by decide +kernel)) (hts (.initialized "HammockDeck") (by decide +kernel)) ht1 hA
  obtain ⟨t2, ht2, hT2⟩ := va_Tof (N := 5) (ty := .char) (tm := (.static "HammockDeck" "PLACE_LETTERS" "[C")) (f := fun j => .int (zPL j)) (A := fun x : Nat => s.heap.size ≤ x) (s := s) (args := #[Value.ref b]) (by decide) (hs _ (by decide +kernel)) (va_eqt (hs (.eq (.length (.static "HammockDeck" "PLACE_LETTERS" "[C")) (.int 5)) (by decide +kernel))) (fun j hj => by
    match j, hj with
    | 0, _ => exact va_eqt (hs (.eq (.elem (.static "HammockDeck" "PLACE_LETTERS" "[C") (.int 0)) (.int 46)) (by decide +kernel))
    | 1, _ => exact va_eqt (hs (.eq (.elem (.static "HammockDeck" "PLACE_LETTERS" "[C") (.int 1)) (.int 100)) (by decide +kernel))
    | 2, _ => exact va_eqt (hs (.eq (.elem (.static "HammockDeck" "PLACE_LETTERS" "[C") (.int 2)) (.int 108)) (by decide +kernel))
    | 3, _ => exact va_eqt (hs (.eq (.elem (.static "HammockDeck" "PLACE_LETTERS" "[C") (.int 3)) (.int 117)) (by decide +kernel))
    | 4, _ => exact va_eqt (hs (.eq (.elem (.static "HammockDeck" "PLACE_LETTERS" "[C") (.int 4)) (.int 103)) (by decide +kernel))
    | k + 5, hj => omega) hA
  have hZ2 := va_Zref (A := fun x : Nat => s.heap.size ≤ x) (hts (.laysStatic "HammockDeck" "PLACE_LETTERS" "[C") (by decide +kernel)) (hts (.initialized "HammockDeck") (by decide +kernel)) ht2 hA
  obtain ⟨t3, ht3, hT3⟩ := va_Tof (N := 5) (ty := .int) (tm := (.static "HammockDeck" "PLACE_WAKES" "[I")) (f := fun j => .int (zPW j)) (A := fun x : Nat => s.heap.size ≤ x) (s := s) (args := #[Value.ref b]) (by decide) (hs _ (by decide +kernel)) (va_eqt (hs (.eq (.length (.static "HammockDeck" "PLACE_WAKES" "[I")) (.int 5)) (by decide +kernel))) (fun j hj => by
    match j, hj with
    | 0, _ => exact va_eqt (hs (.eq (.elem (.static "HammockDeck" "PLACE_WAKES" "[I") (.int 0)) (.int 0)) (by decide +kernel))
    | 1, _ => exact va_eqt (hs (.eq (.elem (.static "HammockDeck" "PLACE_WAKES" "[I") (.int 1)) (.int 1)) (by decide +kernel))
    | 2, _ => exact va_eqt (hs (.eq (.elem (.static "HammockDeck" "PLACE_WAKES" "[I") (.int 2)) (.int 3)) (by decide +kernel))
    | 3, _ => exact va_eqt (hs (.eq (.elem (.static "HammockDeck" "PLACE_WAKES" "[I") (.int 3)) (.int 2)) (by decide +kernel))
    | 4, _ => exact va_eqt (hs (.eq (.elem (.static "HammockDeck" "PLACE_WAKES" "[I") (.int 4)) (.int (-1))) (by decide +kernel))
    | k + 5, hj => omega) hA
  have hZ3 := va_Zref (A := fun x : Nat => s.heap.size ≤ x) (hts (.laysStatic "HammockDeck" "PLACE_WAKES" "[I") (by decide +kernel)) (hts (.initialized "HammockDeck") (by decide +kernel)) ht3 hA
  have hTb : va_T .int b L (fun j => .int (xs j)) (fun x : Nat => s.heap.size ≤ x) s s.heap := by
    obtain ⟨scr, h1, h2, h3, h4, h5⟩ := hX
    exact ⟨scr, h1, h2, h3, by omega, (by rw [h4]), h5, Nat.not_le.mpr hbl⟩
  have hev : (Term.arg 0).eval #[Value.ref b] s none [] s = some (.ref b) := rfl
  have n0 : b ≠ t0 := va_neR (hs (.not (.eq (.arg 0) (.static "HammockDeck" "KIND_BULK" "[I"))) (by decide +kernel)) hev ht0
  have n3 : b ≠ t3 := va_neR (hs (.not (.eq (.arg 0) (.static "HammockDeck" "PLACE_WAKES" "[I"))) (by decide +kernel)) hev ht3
  have n1 : b ≠ t1 := fun q => by subst q; exact absurd (zT_ty hTb hT1) (by decide)
  have n2 : b ≠ t2 := fun q => by subst q; exact absurd (zT_ty hTb hT2) (by decide)
  have n03 : t0 ≠ t3 := fun q => by subst q; exact absurd (zT_len hT0 hT3) (by decide)
  have n12 : t1 ≠ t2 := fun q => by subst q; exact absurd (zT_len hT1 hT2) (by decide)
  have n01 : t0 ≠ t1 := fun q => by subst q; exact absurd (zT_ty hT0 hT1) (by decide)
  have n02 : t0 ≠ t2 := fun q => by subst q; exact absurd (zT_ty hT0 hT2) (by decide)
  have n31 : t3 ≠ t1 := fun q => by subst q; exact absurd (zT_ty hT3 hT1) (by decide)
  have n32 : t3 ≠ t2 := fun q => by subst q; exact absurd (zT_ty hT3 hT2) (by decide)
  have tl : ∀ {ty : FieldType} {t N : Nat} {f : Nat → Value}, va_T ty t N f (fun x : Nat => s.heap.size ≤ x) s s.heap → ¬ s.heap.size ≤ t := fun h => by obtain ⟨_, _, _, _, _, _, _, h7⟩ := h; exact h7
  obtain ⟨c0, iS0, hKn0⟩ := u_known (C := RX0) (T := TX0) (N := 5) (n := 5) hts (by decide +kernel) (hts (.instantiable RX0 5) (by decide +kernel))
  obtain ⟨c1, iS1, hKn1⟩ := u_known (C := RX1) (T := TX1) (N := 7) (n := 7) hts (by decide +kernel) (hts (.instantiable RX1 7) (by decide +kernel))
  obtain ⟨c2, iS2, hKn2⟩ := u_known (C := RX2) (T := TX2) (N := 2) (n := 2) hts (by decide +kernel) (hts (.instantiable RX2 2) (by decide +kernel))
  obtain ⟨c3, iS3, hKn3⟩ := u_known (C := RX3) (T := TX3) (N := 3) (n := 3) hts (by decide +kernel) (hts (.instantiable RX3 3) (by decide +kernel))
  obtain ⟨c4, iS4, hKn4⟩ := u_known (C := RX4) (T := TX4) (N := 2) (n := 2) hts (by decide +kernel) (hts (.instantiable RX4 2) (by decide +kernel))
  obtain ⟨c5, iS5, hKn5⟩ := u_known (C := RX5) (T := TX5) (N := 12) (n := 12) hts (by decide +kernel) (hts (.instantiable RX5 12) (by decide +kernel))
  obtain ⟨dC, dI, hKc⟩ : ∃ (dC : Nat → ClassId) (dI : Nat → Nat → Nat), ∀ (k : Nat) (q : vw_C), zcls[k]? = some q → u_Kn s q.1 q.2.1 q.2.2 (dC k) (dI k) := by
    refine ⟨fun k => match k with | 0 => c0 | 1 => c1 | 2 => c2 | 3 => c3 | 4 => c4 | _ => c5, fun k => match k with | 0 => iS0 | 1 => iS1 | 2 => iS2 | 3 => iS3 | 4 => iS4 | _ => iS5, ?_⟩
    intro k q hq
    match k, hq with
    | 0, hq => cases hq; exact hKn0
    | 1, hq => cases hq; exact hKn1
    | 2, hq => cases hq; exact hKn2
    | 3, hq => cases hq; exact hKn3
    | 4, hq => cases hq; exact hKn4
    | 5, hq => cases hq; exact hKn5
    | k + 6, hq => simp [zcls] at hq
  obtain ⟨aI, kI, cpI, hI1, hI2, hI3⟩ := Cond.arrayClass_spec (hts (.arrayClass .int) (by decide +kernel))
  obtain ⟨cp4, a4, k4, h41, -, h43, h44, h45⟩ := Cond.arrayOver_spec (hts (.arrayOver (.object RX4)) (by decide +kernel))
  obtain ⟨cp2, a2, k2, h21, -, h23, h24, h25⟩ := Cond.arrayOver_spec (hts (.arrayOver (.object RX2)) (by decide +kernel))
  have hK : zKS ((dC, dI), aI, fun k => if k = 4 then a4 else a2) s := by
    refine ⟨⟨hKc, fun k q hq => ?_⟩, fun w hw hd => ?_⟩
    · match k, hq with
      | 0, hq => cases hq; exact ⟨fun N z => ⟨fun k h => (by cases h), kI, hI2, cpI, hI3⟩, hI1⟩
      | 1, hq => cases hq; exact ⟨fun N z => ⟨fun k h => (by cases h), k4, h43, cp4, h44⟩, k4, cp4, h43, h44, h41, h45⟩
      | 2, hq => cases hq; exact ⟨fun N z => ⟨fun k h => (by cases h), k2, h23, cp2, h24⟩, k2, cp2, h23, h24, h21, h25⟩
      | k + 3, hq => simp at hq
    · have h9 := hts w hw
      unfold zNd at hd
      split at hd
      · exact va_Nw.of rfl h9
      · exact va_Nw.of rfl h9
      · exact va_AO.of h9
      · cases hd
  refine ⟨(s.heap.size, fun a => if a = b then some (false, L, xs) else if a = t0 then some (false, 6, zKB) else if a = t3 then some (false, 5, zPW) else if a = t1 then some (true, 6, zKL) else if a = t2 then some (true, 5, zPL) else none, fun i => match i with | 0 => t0 | 1 => t1 | 2 => t2 | _ => t3), ?_, ?_⟩
  · refine ⟨Nat.not_le.mpr hbl, by simp, fun i hi => ?_, ?_, ?_, ?_, ?_⟩
    · match i, hi with
      | 0, _ => exact tl hT0
      | 1, _ => exact tl hT1
      | 2, _ => exact tl hT2
      | 3, _ => exact tl hT3
      | k + 4, hi => omega
    · simp [Ne.symm n0]
    · simp [Ne.symm n1, Ne.symm n01, Ne.symm n31]
    · simp [Ne.symm n2, Ne.symm n02, Ne.symm n32, Ne.symm n12]
    · simp [Ne.symm n3, Ne.symm n03]
  · intro g hg hgl hgs
    rw [lg_entry_eq]
    obtain ⟨-, k⟩ := zsnd_ev (l := l) (G := ((dC, dI), aI, fun k => if k = 4 then a4 else a2)) hg
    refine k (k := g.length) (n := zhs g) (R := room_1) (H := s.heap) (locs := []) (cells := 0) (slots := 0) ⟨hx, hb, hml, hown, fun w hw => hts w (List.mem_filter.mp hw).1, hK, fun h => absurd h (by decide +kernel)⟩ (zent_lv [.ref b] (n := 29) (Nat.le_of_ble_eq_true rfl)) ⟨rfl, fun k c hk => by simp at hk, fun a q hq => ?_, fun i q hq => ?_⟩ (fun q hq => by cases hq) (by simp) (by simp [zhs]) hgl hgs (by decide +kernel) (by decide +kernel) (fun pc' ls' H' locs' ho hH' hl' => ?_)
    · dsimp only at hq
      split at hq
      · rename_i h; cases hq; rw [h]; exact hTb
      · split at hq
        · rename_i h; cases hq; rw [h]; exact hT0
        · split at hq
          · rename_i h; cases hq; rw [h]; exact hT3
          · split at hq
            · rename_i h; cases hq; rw [h]; exact hT1
            · split at hq
              · rename_i h; cases hq; rw [h]; exact hT2
              · cases hq
    · match i, hq with
      | 0, hq => cases hq; exact hZ0
      | 1, hq => cases hq; exact hZ1
      | 2, hq => cases hq; exact hZ2
      | 3, hq => cases hq; exact hZ3
      | k + 4, hq => simp [zstat] at hq
    · rcases ho with ⟨x, hv, hd, -⟩ | ⟨x, hv, -⟩ | ⟨x, hv, -⟩ | ⟨hv, -⟩
      · cases hv
        exact W.widen hgl hgs (va_forget hl' (lw_ret hx hb hr hlocks hd))
      · cases hv
      · cases x <;> cases hv
      · cases hv
