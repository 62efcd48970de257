/-! copies, numbers of Math, calls -/
section STEPC
variable {p : Program} {l : Launch} {e : Env} {R : Room} {s : State} {m : MethodId} {args : Array Value} {below : List Frame} {meth : Method} {c : Code} {H : Heap} {locs : List Loc} {cells slots : Nat} {Q : State → Prop}
variable {cc : ByteArray} {pc : Nat} {ls : Array Slot} {rest : List Value}
theorem zr_copy (hexec : p.tables.exec = Jvm.exec) (hb : c.code = cc) (hml : c.maxLocals = ls.size) {own : String} {index : Nat} (hown : s.vm.findClass own = some m.cls) (hlink : (Cond.methodLink own index arraycopyName).before args s = true) (hnat : (Cond.native arraycopyName).before args s = true) (hstat : (Cond.static arraycopyName).before args s = true) (hini : (Cond.initialized "java/lang/System").before args s = true)
    {cA : ClassId} (hA : ArrOfT s cA .int) {a0 a n0 n1 : Nat} {f g : Nat → Int32} (hc0 : H[a0]? = some (vp_cell cA (n0, .inl f))) (hc1 : H[a]? = some (vp_cell cA (n1, .inl g)))
    {sp dp n : Int32} (h1 : ¬ sp < 0) (h2 : ¬ dp < 0) (h3 : ¬ n < 0) (h4 : sp.toNatClampNeg + n.toNatClampNeg ≤ n0) (h5 : dp.toNatClampNeg + n.toNatClampNeg ≤ n1)
    (hframes : 1 ≤ R.frames) (hlocals : (rest.map fun v => v.category).sum + (nativeFrameWords "java/lang/System" "arraycopy" 5 + 11) ≤ R.locals) (hdg : decode cc pc = .ok (.invokestatic index, 3))
    (kk : ∀ (H1 : Heap) (L : List Loc), H1[a]? = some (vp_cell cA (n1, .inl (va_cpy f g sp.toNatClampNeg dp.toNatClampNeg n.toNatClampNeg))) → H1.size = H.size → (∀ q : Nat, q ≠ a → H1[q]? = H[q]?) → (∀ q ∈ L, q.base = a) → W p l e R s m args below meth c H1 (locs ++ L) cells slots Q (F0 m (pc + 3) ls rest)) : W p l e R s m args below meth c H locs cells slots Q (F0 m pc ls (.int n :: .int dp :: .ref a :: .int sp :: .ref a0 :: rest)) := by
  have nn : ∀ z : Int32, ¬ z < 0 → z.toInt = (z.toNatClampNeg : Int) := by
    intro z hz
    have hz0 : (0 : Int) ≤ z.toInt := by
      have := Int32.not_lt.mp hz
      simpa using Int32.le_iff_toInt_le.mp this
    show z.toInt = ((z.toInt.toNat : Nat) : Int)
    omega
  intro T hT X
  obtain ⟨-, k0, hk0, cm0, hkk0⟩ := hA n0 (fun j => .int (f j))
  obtain ⟨-, k1, hk1, cm1, hkk1⟩ := hA n1 (fun j => .int (g j))
  obtain ⟨vm', X', step⟩ := X.arraycopy hexec hown hlink hnat hstat hini (src := a0) (dst := a) (cs := vp_cell cA (n0, .inl f)) (cd := vp_cell cA (n1, .inl g)) (srcPos := sp) (destPos := dp) (n := n) (by rw [hT]; exact hc0) (by rw [hT]; exact hc1)
    (fun _ h => by cases h) (fun _ h => by cases h) (fun h => by cases h) (fun h => by cases h) hk0 hk1 hkk0 hkk1 (by simp [refKind]) h1 h2 h3
    (by rw [nn sp h1, nn n h3]; show ¬ _ > ((arrV cA n0 (fun j => .int (f j))).slots.size : Int); rw [arrV_size]; omega)
    (by rw [nn dp h2, nn n h3]; show ¬ _ > ((arrV cA n1 (fun j => .int (g j))).slots.size : Int); rw [arrV_size]; omega)
    (fun vm₁ _ i hi => by
      have e : (vp_cell cA (n0, .inl f)).slots.getD (sp.toNatClampNeg + i) .null = .int (f (sp.toNatClampNeg + i)) := by
        show (arrV cA n0 (fun j => .int (f j))).slots.getD _ _ = _
        rw [Array.getD_eq_getD_getElem?, arrV_read _ _ (by omega)]
        rfl
      refine ⟨?_, ?_⟩
      · rw [e]
        rfl
      · rw [e]
        exact trivial)
    (g := F0 m pc ls (.int n :: .int dp :: .ref a :: .int sp :: .ref a0 :: rest)) rfl (by rw [hml]) (rest := rest) rfl (by rw [hb]; exact hdg) hframes (by show 2 * 0 + _ + _ ≤ _; omega)
  have e1 : copied (vp_cell cA (n0, .inl f)) (vp_cell cA (n1, .inl g)) sp dp n = vp_cell cA (n1, .inl (va_cpy f g sp.toNatClampNeg dp.toNatClampNeg n.toNatClampNeg)) := va_copied (fun z => .int z) cA cA f g h4
  rw [e1] at X' step
  have hl : a < H.size := (Array.getElem?_eq_some_iff.mp hc1).1
  have hheap : ((T.setVm vm').setCell a (vp_cell cA (n1, .inl (va_cpy f g sp.toNatClampNeg dp.toNatClampNeg n.toNatClampNeg)))).heap = H.setIfInBounds a (vp_cell cA (n1, .inl (va_cpy f g sp.toNatClampNeg dp.toNatClampNeg n.toNatClampNeg))) := by rw [← hT]; rfl
  have oq : ∀ q : Nat, q ≠ a → (H.setIfInBounds a (vp_cell cA (n1, .inl (va_cpy f g sp.toNatClampNeg dp.toNatClampNeg n.toNatClampNeg))))[q]? = H[q]? := fun q hq => by simp [Array.getElem?_setIfInBounds, Ne.symm hq]
  obtain ⟨t, a1, b1⟩ := kk _ _ (show (H.setIfInBounds a _)[a]? = some _ by simp [Array.getElem?_setIfInBounds, hl]) (by simp) oq (fun q hq => by
      obtain ⟨z, -, hz⟩ := List.mem_map.mp hq
      rw [← hz]) _ hheap X'
  exact ⟨t, step t a1, b1⟩
end STEPC
section STEPD
variable {l : Launch} {G : zG} {r : zE} {n : Nat} {mi pc len : Nat} {w : zL} {lv : List (Option Value)} {st : List Value} {h g : zH} {v : Option Value} {u : List Nat} {ix : Nat}
/-- a call, all kinds: what the walk owes and what it gets -/
theorem zcall {as t : List Value} {h1 : zH} {v1 : Option Value} (ih : zSnd l G r n) (e1 : zrun r n w.1 0 (zent (zMl w.1) as) [] h = some (v1, h1)) (e2 : zrun r n mi (pc + 3) lv (v1.toList ++ t) h1 = some (v, g)) {st0 : List Value}
    (hrow : ∀ {p : Program} {e : Env} {R : Room} {s : State} {m : MethodId} {args : Array Value} {below : List Frame} {meth : Method} {c : Code} {H : Heap} {locs : List Loc} {cells slots : Nat} {ls : Array Slot}, zFix G p s m args meth c mi → zLV ls (zMl mi) lv → zHS G r s h H → zFr mi ≤ R.frames → zLo mi ≤ R.locals → cells + (h1.length - h.length) ≤ R.cells → slots + (zhs h1 - zhs h) ≤ R.slots →
      PreS s H (va_Pc as (zWS G r h)) as → va_Run p l e R s m args below meth c H locs cells slots (h1.length - h.length) (zhs h1 - zhs h) (F0 m pc ls st0) t ((fun _ _ o t => o = .returned v1 ∧ zHS G r t h1 t.heap) as.toArray) (fun q => r.1 ≤ q)) : zGo l G r mi v g pc lv st0 h := by
  have k1 := (ih _ _ _ _ _ _ _ e1).1
  have k2 := ih _ _ _ _ _ _ _ e2
  refine ⟨⟨Nat.le_trans k1.1 k2.1.1, Nat.le_trans k1.2 k2.1.2⟩, fun {p e R s m args below meth c Q H locs cells slots k n' ls} hF hL hH hl q1 q2 b1 b2 hf ho hr => ?_⟩
  have hK : zKS G s := hF.2.2.2.2.2.1
  have kz := k2.1
  refine zr_run (hrow hF hL hH hf ho (by omega) (by omega) ⟨fun a U g mk q => ⟨q.1, q.2.1.moved (t := U.calling g mk a) (Vm.Alike.refl U.vm), zKS.warm (U := U.calling g mk a) (State.WarmedH.refl U) q.2.2⟩, fun U hU hW => ⟨rfl, by rw [hU]; exact hH.moved hW.alike, hK.warm hW⟩⟩) fun v' st₀ t' T' L hvm hL2 hQ => ?_
  obtain ⟨hv, hH1⟩ := hQ
  cases hv
  refine k2.2 hF hL (hH1.moved hvm.symm) (fun q hq => ?_) (by omega) (by omega) b1 b2 hf ho hr
  rcases List.mem_append.mp hq with hq | hq
  · exact hl q hq
  · exact hL2 q hq
theorem zcal_inv {i j : Nat} (hB : zcal mi w i j = true) : Cond.code (zY w.1) (zB w.1) (zMl w.1) (zRt w.1) ∈ lw_tbl ∧ Cond.initialized (zY w.1).cls ∈ lw_tbl ∧ zMl w.1 = w.2.2.2.2.1 ∧ ((zY w.1).cls ≠ "java/lang/invoke/MethodHandle" ∧ (zY w.1).cls ≠ "java/lang/invoke/VarHandle" ∧ (parseMethodDescriptor (zY w.1).desc).map (fun d => d.parameters.length) = some w.2.2.1) ∧ zFr w.1 + 1 ≤ zFr mi ∧ 8 + (zMl w.1 + 11) + zLo w.1 ≤ zLo mi := by
  unfold zcal at hB
  rw [Bool.and_eq_true, Bool.and_eq_true] at hB
  have h3 := of_decide_eq_true hB.2
  exact ⟨zmem_in hB.1.1, zmem_in hB.1.2, h3.1, h3.2.1, h3.2.2.1, h3.2.2.2⟩
theorem zGoodC {mj : Nat} (h : Cond.code (zY mj) (zB mj) (zMl mj) (zRt mj) ∈ lw_tbl) : GoodIn zgt (Cond.code (zY mj) (zB mj) (zMl mj) (zRt mj) :: zgt) := fun c hc => by
  rcases List.mem_cons.mp hc with rfl | hc
  · exact zgood _ (zgt_of h rfl)
  · exact zgood _ hc
theorem zs_invokevirtual (ih : zSnd l G r n) (hd : decode (zB mi) pc = .ok (.invokevirtual ix, len)) (hA : zokA mi pc len (.invokevirtual ix) w = true) (hB : zokB mi (.invokevirtual ix) w u = true) (hq : zx r (zrun r n) (zrun r n) mi pc len (.invokevirtual ix) w lv st h = some (v, g)) : zGo l G r mi v g pc lv st h := by
  obtain rfl := zA3 hA
  unfold zx at hq
  dsimp only at hq
  simp only [zokB] at hB
  rw [Bool.and_eq_true, Bool.and_eq_true, Bool.and_eq_true] at hB
  obtain ⟨⟨⟨hB1, hB2⟩, hB3⟩, hB4⟩ := hB
  obtain ⟨c1, c2, c3, c4, c5, c6⟩ := zcal_inv hB2
  obtain ⟨as, t, rfl, hn, hs8, -, hq2⟩ := zpop_inv hq
  replace hq := hq2
  obtain ⟨b, t, rfl, hq2⟩ := zp1r_inv hq
  replace hq := hq2
  obtain ⟨hob, hq⟩ := zif_inv hq
  obtain ⟨hlen, hq⟩ := zif_inv hq
  rw [← c3] at hlen hq
  obtain ⟨v1, h1, e1, -, e2⟩ := zca_inv hq
  split at hB4
  · rename_i q hc
    obtain ⟨fs, hz⟩ := zob_inv hob
    refine zcall ih e1 e2 fun {p e R s m args below meth c H locs cells slots ls} hF hL hH hf ho hcl hsl hp => ?_
    have hat : va_at G.1 zcls (b, .inr (w.2.2.2.2.2.toNat, fs)) H := hH.at hz
    obtain ⟨hx, hb, hml, hown, hts, hK, -⟩ := hF
    refine va_runV (C := q.1) (As := as) (b := b) (ws := Cond.code (zY w.1) (zB w.1) (zMl w.1) (zRt w.1) :: zgt) (nL := zMl mi) (Ts := zgt) ⟨hx, hb, hml, hown, hts⟩ (zMet ih e1 hlen) ⟨callB_of w.2.2.1 hts (zGoodC c1) rfl rfl rfl (hts _ (zgt_of c2 rfl)) (hts _ (zgt_of (zmem_in hB1) rfl)) c4 ⟨by dsimp only; omega, by dsimp only; omega⟩, hts _ (zgt_of (zmem_in hB3) rfl), hts _ (zgt_of (zmem_in hB4) rfl)⟩ ⟨hp.1, va_recv hK.1 (zP1 hat) hc (q0 := 0) rfl, hp.2⟩ rfl hn hL.1 rfl (lv_room (by simp only [List.map_cons, List.sum_cons] at hs8; omega)) hd ⟨hcl, hsl⟩
  · cases hB4
theorem zs_invokestatic (ih : zSnd l G r n) (hd : decode (zB mi) pc = .ok (.invokestatic ix, len)) (hA : zokA mi pc len (.invokestatic ix) w = true) (hB : zokB mi (.invokestatic ix) w u = true) (hq : zx r (zrun r n) (zrun r n) mi pc len (.invokestatic ix) w lv st h = some (v, g)) : zGo l G r mi v g pc lv st h := by
  obtain rfl := zA3 hA
  simp only [zokB] at hB
  unfold zx at hq
  dsimp only at hq
  split at hB
  · rename_i hw
    rw [hw] at hq
    try dsimp only at hq
    rw [Bool.and_eq_true, Bool.and_eq_true, Bool.and_eq_true, Bool.and_eq_true] at hB
    obtain ⟨⟨⟨⟨hB1, hB2⟩, hB3⟩, hB4⟩, hB5⟩ := hB
    have hB5 := of_decide_eq_true hB5
    obtain ⟨a0, sp, a1, dp, m9, t, rfl, hq2⟩ := zpcp_inv hq
    replace hq := hq2
    obtain ⟨hs8, hq⟩ := zif_inv hq
    obtain ⟨h2, e, hq⟩ := zbind_inv hq
    obtain ⟨n0, f, n1, f1, hz0, hz1, hcn, rfl⟩ := zcp_inv e
    refine zGo.write (c1 := .inl (n1, va_cpy f f1 sp.toNatClampNeg dp.toNatClampNeg m9.toNatClampNeg)) hz1 rfl (fun hF hL hH hf ho kk => ?_) (ih _ _ _ _ _ _ _ hq)
    obtain ⟨hx, hb, hml, hown, hts, hK, -⟩ := hF
    exact zr_copy hx hb (by rw [hml, hL.1]) hown (hts _ (zgt_of (zmem_in hB1) rfl)) (hts _ (zgt_of (zmem_in hB2) rfl)) (hts _ (zgt_of (zmem_in hB3) rfl)) (hts _ (zgt_of (zmem_in hB4) rfl)) (hK.1.2 0 _ rfl).1 (hH.at hz0) (hH.at hz1) (fun q => hcn (by simp [q])) (fun q => hcn (by simp [q])) (fun q => hcn (by simp [q])) (by omega) (by omega) (by omega) (by show _ + (7 + 11) ≤ _; omega) hd kk
  · rename_i hw
    rw [hw] at hq
    try dsimp only at hq
    rw [Bool.and_eq_true, Bool.and_eq_true, Bool.and_eq_true, Bool.and_eq_true] at hB
    obtain ⟨⟨⟨⟨hB1, hB2⟩, hB3⟩, hB4⟩, hB5⟩ := hB
    have hB5 := of_decide_eq_true hB5
    obtain ⟨x, t, rfl, hq2⟩ := zp1i_inv hq
    replace hq := hq2
    obtain ⟨hs8, hq⟩ := zif_inv hq
    have k0 := ih _ _ _ _ _ _ _ hq
    refine ⟨k0.1, fun hF hL hH hl e1 e2 b1 b2 hf ho hr => ?_⟩
    have k := k0.2 hF hL hH hl e1 e2 b1 b2 hf ho hr
    have k1 := k0.1
    obtain ⟨hx, hb, hml, hown, hts, hK, -⟩ := hF
    exact va_mabs hx hb (by rw [hml, hL.1]) hown (hts _ (zgt_of (zmem_in hB1) rfl)) (hts _ (zgt_of (zmem_in hB2) rfl)) (hts _ (zgt_of (zmem_in hB3) rfl)) (hts _ (zgt_of (zmem_in hB4) rfl)) (by omega) (by omega) (by omega) (by omega) hd k
  · rename_i hw
    rw [hw] at hq
    try dsimp only at hq
    rw [Bool.and_eq_true, Bool.and_eq_true, Bool.and_eq_true, Bool.and_eq_true] at hB
    obtain ⟨⟨⟨⟨hB1, hB2⟩, hB3⟩, hB4⟩, hB5⟩ := hB
    have hB5 := of_decide_eq_true hB5
    obtain ⟨x, y, t, rfl, hq2⟩ := zp2i_inv hq
    replace hq := hq2
    obtain ⟨hs8, hq⟩ := zif_inv hq
    have k0 := ih _ _ _ _ _ _ _ hq
    refine ⟨k0.1, fun hF hL hH hl e1 e2 b1 b2 hf ho hr => ?_⟩
    have k := k0.2 hF hL hH hl e1 e2 b1 b2 hf ho hr
    have k1 := k0.1
    obtain ⟨hx, hb, hml, hown, hts, hK, -⟩ := hF
    exact va_mmax hx hb (by rw [hml, hL.1]) hown (hts _ (zgt_of (zmem_in hB1) rfl)) (hts _ (zgt_of (zmem_in hB2) rfl)) (hts _ (zgt_of (zmem_in hB3) rfl)) (hts _ (zgt_of (zmem_in hB4) rfl)) (by omega) (by omega) (by omega) (by omega) hd k
  · rename_i hw
    rw [hw] at hq
    try dsimp only at hq
    rw [Bool.and_eq_true, Bool.and_eq_true, Bool.and_eq_true, Bool.and_eq_true] at hB
    obtain ⟨⟨⟨⟨hB1, hB2⟩, hB3⟩, hB4⟩, hB5⟩ := hB
    have hB5 := of_decide_eq_true hB5
    obtain ⟨x, y, t, rfl, hq2⟩ := zp2i_inv hq
    replace hq := hq2
    obtain ⟨hs8, hq⟩ := zif_inv hq
    have k0 := ih _ _ _ _ _ _ _ hq
    refine ⟨k0.1, fun hF hL hH hl e1 e2 b1 b2 hf ho hr => ?_⟩
    have k := k0.2 hF hL hH hl e1 e2 b1 b2 hf ho hr
    have k1 := k0.1
    obtain ⟨hx, hb, hml, hown, hts, hK, -⟩ := hF
    exact va_mmin hx hb (by rw [hml, hL.1]) hown (hts _ (zgt_of (zmem_in hB1) rfl)) (hts _ (zgt_of (zmem_in hB2) rfl)) (hts _ (zgt_of (zmem_in hB3) rfl)) (hts _ (zgt_of (zmem_in hB4) rfl)) (by omega) (by omega) (by omega) (by omega) hd k
  · rename_i hw
    rw [hw] at hq
    try dsimp only at hq
    rw [Bool.and_eq_true, Bool.and_eq_true, Bool.and_eq_true, Bool.and_eq_true] at hB
    obtain ⟨⟨⟨⟨hB1, hB2⟩, hB3⟩, hB4⟩, hB5⟩ := hB
    have hB5 := of_decide_eq_true hB5
    obtain ⟨x, t, rfl, hq2⟩ := zp1l_inv hq
    replace hq := hq2
    obtain ⟨hs8, hq⟩ := zif_inv hq
    have k0 := ih _ _ _ _ _ _ _ hq
    refine ⟨k0.1, fun hF hL hH hl e1 e2 b1 b2 hf ho hr => ?_⟩
    have k := k0.2 hF hL hH hl e1 e2 b1 b2 hf ho hr
    have k1 := k0.1
    obtain ⟨hx, hb, hml, hown, hts, hK, -⟩ := hF
    exact va_mabs_long hx hb (by rw [hml, hL.1]) hown (hts _ (zgt_of (zmem_in hB1) rfl)) (hts _ (zgt_of (zmem_in hB2) rfl)) (hts _ (zgt_of (zmem_in hB3) rfl)) (hts _ (zgt_of (zmem_in hB4) rfl)) (by omega) (by omega) (by omega) (by omega) hd k
  · rename_i hw
    rw [hw] at hq
    try dsimp only at hq
    rw [Bool.and_eq_true, Bool.and_eq_true, Bool.and_eq_true, Bool.and_eq_true] at hB
    obtain ⟨⟨⟨⟨hB1, hB2⟩, hB3⟩, hB4⟩, hB5⟩ := hB
    have hB5 := of_decide_eq_true hB5
    obtain ⟨x, y, t, rfl, hq2⟩ := zp2l_inv hq
    replace hq := hq2
    obtain ⟨hs8, hq⟩ := zif_inv hq
    have k0 := ih _ _ _ _ _ _ _ hq
    refine ⟨k0.1, fun hF hL hH hl e1 e2 b1 b2 hf ho hr => ?_⟩
    have k := k0.2 hF hL hH hl e1 e2 b1 b2 hf ho hr
    have k1 := k0.1
    obtain ⟨hx, hb, hml, hown, hts, hK, -⟩ := hF
    exact va_mmax_long hx hb (by rw [hml, hL.1]) hown (hts _ (zgt_of (zmem_in hB1) rfl)) (hts _ (zgt_of (zmem_in hB2) rfl)) (hts _ (zgt_of (zmem_in hB3) rfl)) (hts _ (zgt_of (zmem_in hB4) rfl)) (by omega) (by omega) (by omega) (by omega) hd k
  · rename_i hw3 hw5 hw6 hw7 hw8 hw9
    split at hq
    · rename_i hw; exact absurd hw hw3
    · rename_i hw; exact absurd hw hw5
    · rename_i hw; exact absurd hw hw6
    · rename_i hw; exact absurd hw hw7
    · rename_i hw; exact absurd hw hw8
    · rename_i hw; exact absurd hw hw9
    · rw [Bool.and_eq_true, Bool.and_eq_true] at hB
      obtain ⟨⟨hB1, hB2⟩, hB3⟩ := hB
      obtain ⟨c1, c2, c3, c4, c5, c6⟩ := zcal_inv hB2
      obtain ⟨as, t, rfl, hn, hs8, -, hq2⟩ := zpop_inv hq
      replace hq := hq2
      obtain ⟨hlen, hq⟩ := zif_inv hq
      rw [← c3] at hlen hq
      obtain ⟨v1, h1, e1, -, e2⟩ := zca_inv hq
      refine zcall ih e1 e2 fun {p e R s m args below meth c H locs cells slots ls} hF hL hH hf ho hcl hsl hp => ?_
      obtain ⟨hx, hb, hml, hown, hts, hK, -⟩ := hF
      exact va_runS (As := as) (ws := Cond.code (zY w.1) (zB w.1) (zMl w.1) (zRt w.1) :: zgt) (nL := zMl mi) (Ts := zgt) ⟨hx, hb, hml, hown, hts⟩ (zMet ih e1 hlen) ⟨callB_of w.2.2.1 hts (zGoodC c1) rfl rfl rfl (hts _ (zgt_of c2 rfl)) (hts _ (zgt_of (zmem_in hB1) rfl)) c4 ⟨by dsimp only; omega, by dsimp only; omega⟩, hts _ (zgt_of (zmem_in hB3) rfl)⟩ hp rfl hn hL.1 rfl (lv_room hs8) hd ⟨hcl, hsl⟩
theorem zs_invokespecial (ih : zSnd l G r n) (hd : decode (zB mi) pc = .ok (.invokespecial ix, len)) (hA : zokA mi pc len (.invokespecial ix) w = true) (hB : zokB mi (.invokespecial ix) w u = true) (hq : zx r (zrun r n) (zrun r n) mi pc len (.invokespecial ix) w lv st h = some (v, g)) : zGo l G r mi v g pc lv st h := by
  obtain rfl := zA3 hA
  simp only [zokB] at hB
  unfold zx at hq
  dsimp only at hq
  split at hB
  · rename_i hw
    rw [hw] at hq
    try dsimp only at hq
    rw [Bool.and_eq_true, Bool.and_eq_true, Bool.and_eq_true] at hB
    obtain ⟨⟨⟨hB1, hB2⟩, hB3⟩, hB4⟩ := hB
    have hB4 := of_decide_eq_true hB4
    obtain ⟨a, t, rfl, hq2⟩ := zp1r_inv hq
    replace hq := hq2
    obtain ⟨hs8, hq⟩ := zif_inv hq
    refine (ih _ _ _ _ _ _ _ hq).row fun hF hL _ hf ho k => ?_
    obtain ⟨hx, hb, hml, hown, hts, hK, -⟩ := hF
    exact W.objInit hx hb hown (hts _ (zgt_of (zmem_in hB1) rfl)) (hts _ (zgt_of (zmem_in hB2) rfl)) (hts _ (zgt_of (zmem_in hB3) rfl)) rfl (by rw [hml]; exact hL.1) rfl hd (by omega) (by show 2 * 0 + _ + _ ≤ _; omega) k
  · rename_i hw4
    split at hq
    · rename_i hw; exact absurd hw hw4
    · rw [Bool.and_eq_true, Bool.and_eq_true, Bool.and_eq_true, Bool.or_eq_true] at hB
      obtain ⟨⟨⟨hB1, hB2⟩, hB3⟩, hB4⟩ := hB
      have hB4 := of_decide_eq_true hB4
      obtain ⟨c1, c2, c3, c4, c5, c6⟩ := zcal_inv hB2
      obtain ⟨as, t, rfl, hn, hs8, -, hq2⟩ := zpop_inv hq
      replace hq := hq2
      obtain ⟨b, t, rfl, hq2⟩ := zp1r_inv hq
      replace hq := hq2
      obtain ⟨hlen, hq⟩ := zif_inv hq
      rw [← c3] at hlen hq
      obtain ⟨v1, h1, e1, -, e2⟩ := zca_inv hq
      refine zcall ih e1 e2 fun {p e R s m args below meth c H locs cells slots ls} hF hL hH hf ho hcl hsl hp => ?_
      obtain ⟨hx, hb, hml, hown, hts, hK, -⟩ := hF
      have M := zMet ih e1 hlen
      have hG := zGoodC c1
      rw [hB4.2] at M hG
      rcases hB1 with hB1 | hB1
      · exact va_runI (As := as) (b := b) (bytes := zB w.1) (maxL := zMl w.1) (nL := zMl mi) (Ts := zgt) ⟨hx, hb, hml, hown, hts⟩ M ⟨callB_of w.2.2.1 hts hG rfl rfl rfl (hts _ (zgt_of c2 rfl)) (hts _ (zgt_of (zmem_in hB1) rfl)) c4 ⟨by dsimp only; omega, by dsimp only; omega⟩, hB4.1, hts _ (zgt_of (zmem_in hB3) rfl)⟩ hp rfl hn hL.1 rfl (lv_room (by simp only [List.map_cons, List.sum_cons] at hs8; omega)) hd ⟨hcl, hsl⟩
      · exact va_runIN (As := as) (b := b) (bytes := zB w.1) (maxL := zMl w.1) (nL := zMl mi) (Ts := zgt) ⟨hx, hb, hml, hown, hts⟩ M ⟨va_cnB w.2.2.1 hts hG rfl rfl rfl (hK.2 _ (zmem_in hB1) rfl) (hts _ (zgt_of c2 rfl)) c4 ⟨by dsimp only; omega, by dsimp only; omega⟩, hB4.1, hts _ (zgt_of (zmem_in hB3) rfl)⟩ hp rfl hn hL.1 rfl (lv_room (by simp only [List.map_cons, List.sum_cons] at hs8; omega)) hd ⟨hcl, hsl⟩
theorem zOut_end {x : Option Value} (ho : zOut mi pc x) (e : st = x.toList) : zGo l G r mi x h pc lv st h := by
  subst e
  refine ⟨⟨Nat.le_refl _, Nat.le_refl _⟩, fun {p e R s m args below meth c Q H locs cells slots k n' ls} hF hL hH hl q1 q2 b1 b2 hf hoo hr => ?_⟩
  have e1 : k = cells := by omega
  have e2 : n' = slots := by omega
  subst e1; subst e2
  exact hr pc ls H locs ho hH hl
theorem zs_ireturn (hd : decode (zB mi) pc = .ok (.ireturn, len)) (hA : zokA mi pc len .ireturn w = true) (hq : zx r (zrun r n) (zrun r n) mi pc len .ireturn w lv st h = some (v, g)) : zGo l G r mi v g pc lv st h := by
  obtain rfl := zA1 hA
  unfold zx at hq
  dsimp only at hq
  split at hq
  · rename_i x
    have hA2 : (if w.1 = 0 then decide (zRt mi = some .int) else decide (zRt mi = some .boolean)) = true := hA
    split at hq
    · rename_i hw
      rw [if_pos hw] at hA2
      cases hq
      exact zOut_end (Or.inl ⟨x, rfl, hd, Or.inl (of_decide_eq_true hA2)⟩) rfl
    · rename_i hw
      rw [if_neg hw] at hA2
      obtain ⟨hc, hq⟩ := zif_inv hq
      cases hq
      exact zOut_end (Or.inl ⟨x, rfl, hd, Or.inr ⟨of_decide_eq_true hA2, hc⟩⟩) rfl
  · cases hq
theorem zs_lreturn (hd : decode (zB mi) pc = .ok (.lreturn, len)) (hA : zokA mi pc len .lreturn w = true) (hq : zx r (zrun r n) (zrun r n) mi pc len .lreturn w lv st h = some (v, g)) : zGo l G r mi v g pc lv st h := by
  obtain rfl := zA1 hA
  unfold zx at hq
  dsimp only at hq
  split at hq
  · rename_i x
    cases hq
    exact zOut_end (Or.inr (Or.inl ⟨x, rfl, hd, zAdc hA⟩)) rfl
  · cases hq
theorem zs_areturn (hd : decode (zB mi) pc = .ok (.areturn, len)) (hA : zokA mi pc len .areturn w = true) (hq : zx r (zrun r n) (zrun r n) mi pc len .areturn w lv st h = some (v, g)) : zGo l G r mi v g pc lv st h := by
  obtain rfl := zA1 hA
  unfold zx at hq
  dsimp only at hq
  split at hq
  · rename_i x
    cases hq
    exact zOut_end (Or.inr (Or.inr (Or.inl ⟨some x, rfl, hd, zAdc hA⟩))) rfl
  · cases hq
    exact zOut_end (Or.inr (Or.inr (Or.inl ⟨none, rfl, hd, zAdc hA⟩))) rfl
  · cases hq
theorem zs_return (hd : decode (zB mi) pc = .ok (.return_, len)) (hA : zokA mi pc len .return_ w = true) (hq : zx r (zrun r n) (zrun r n) mi pc len .return_ w lv st h = some (v, g)) : zGo l G r mi v g pc lv st h := by
  obtain rfl := zA1 hA
  unfold zx at hq
  dsimp only at hq
  split at hq
  · cases hq
    exact zOut_end (Or.inr (Or.inr (Or.inr ⟨rfl, hd, zAdc hA⟩))) rfl
  · cases hq
end STEPD
