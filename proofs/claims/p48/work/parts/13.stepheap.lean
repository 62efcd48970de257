/-! fields, arrays, new cells -/
section STEPH
variable {l : Launch} {G : zG} {r : zE} {n : Nat} {mi pc len : Nat} {w : zL} {lv : List (Option Value)} {st : List Value} {h g : zH} {v : Option Value} {u : List Nat} {ix : Nat}
theorem zr_get {p : Program} {l : Launch} {e : Env} {R : Room} {s : State} {m : MethodId} {args : Array Value} {below : List Frame} {meth : Method} {c : Code} {H : Heap} {locs : List Loc} {cells slots : Nat} {Q : State → Prop} {ls : Array Slot} {rest : List Value} {a : Nat} {fs : List Value} {x : Value} (hF : zFix G p s m args meth c mi) (hH : zHS G r s h H) (hz : zget r h a = some (.inr (.inr (w.1, fs)))) (hv : fs[w.2.1]? = some x) (hB : zokB mi (.getfield ix) w u = true) (hd : decode (zB mi) pc = .ok (.getfield ix, 3))
    (kk : W p l e R s m args below meth c H locs cells slots Q (F0 m (pc + 3) ls (x :: rest))) : W p l e R s m args below meth c H locs cells slots Q (F0 m pc ls (.ref a :: rest)) := by
  simp only [zokB] at hB
  split at hB
  · rename_i q hc
    rw [Bool.and_eq_true, Bool.or_eq_true] at hB
    obtain ⟨hk, hB⟩ := hB
    have hk := of_decide_eq_true hk
    obtain ⟨hin, -, -, hdecl, -, -, -, -⟩ := zcls_f hc
    obtain ⟨hx, hb, -, hown, hts, hK, -⟩ := hF
    have hat : va_at G.1 zcls (a, .inr (w.1, fs)) H := hH.at hz
    have hsame : ∀ x, s.fieldFound? (q.2.1 w.2.1).1 (q.2.1 w.2.1).2.1 (q.2.1 w.2.1).2.2.1 = some x → s.fieldFound? q.1 (q.2.1 w.2.1).2.1 (q.2.1 w.2.1).2.2.1 = some x := by
      rw [hdecl _ hk]; exact fun _ h => h
    rcases hB with hB | hB
    · exact va_get hx hb hts hin hown hK.1 (zP1 hat) 0 rfl hc w.2.1 hk (hts _ (zgt_of (zmem_in hB) rfl)) hsame hv hd kk
    · exact va_getN hx hb hts hin hown hK.1 (zP1 hat) 0 rfl hc w.2.1 hk (va_Nw.use rfl (hK.2 _ (zmem_in hB) rfl)) hsame hv hd kk
  · cases hB
theorem zs_getfield (ih : zSnd l G r n) (hd : decode (zB mi) pc = .ok (.getfield ix, len)) (hA : zokA mi pc len (.getfield ix) w = true) (hB : zokB mi (.getfield ix) w u = true) (hq : zx r (zrun r n) (zrun r n) mi pc len (.getfield ix) w lv st h = some (v, g)) : zGo l G r mi v g pc lv st h := by
  obtain rfl := zA3 hA
  obtain ⟨a, t, rfl, hq2⟩ := zp1r_inv hq
  replace hq := hq2
  split at hq
  · obtain ⟨x, e, hq⟩ := zbind_inv hq
    obtain ⟨fs, hz, hv⟩ := zgI_inv e
    exact (ih _ _ _ _ _ _ _ hq).row fun hF _ hH _ _ k => zr_get hF hH hz hv hB hd k
  · obtain ⟨x, e, hq⟩ := zbind_inv hq
    obtain ⟨fs, hz, hv⟩ := zgL_inv e
    exact (ih _ _ _ _ _ _ _ hq).row fun hF _ hH _ _ k => zr_get hF hH hz hv hB hd k
  · obtain ⟨x, e, hq⟩ := zbind_inv hq
    obtain ⟨fs, hz, hv⟩ := zgR_inv e
    exact (ih _ _ _ _ _ _ _ hq).row fun hF _ hH _ _ k => zr_get hF hH hz hv hB hd k
theorem zs_put {a : Nat} {x : Value} {t : List Value} {h2 : zH} (ih : zSnd l G r n) (hd : decode (zB mi) pc = .ok (.putfield ix, 3)) (hB : zokB mi (.putfield ix) w u = true) (e : zpF r h a w.1 w.2.1 x = some h2) (hn : ∀ q : vw_C, zcls[w.1]? = some q → narrow (zty w.1 w.2.1) x = x ∧ fits (zty w.1 w.2.1) x = true) (hq : zrun r n mi (pc + 3) lv t h2 = some (v, g)) : zGo l G r mi v g pc lv (x :: .ref a :: t) h := by
  obtain ⟨fs, hz, hl, rfl⟩ := zpF_inv e
  simp only [zokB] at hB
  split at hB
  · rename_i q hc
    have hn := hn q hc
    rw [Bool.and_eq_true, Bool.and_eq_true] at hB
    obtain ⟨⟨hk, hB⟩, -⟩ := hB
    have hk := of_decide_eq_true hk
    refine zGo.write (c1 := .inr (.inr (w.1, fs.set w.2.1 x))) hz rfl (fun hF hL hH _ _ kk => ?_) (ih _ _ _ _ _ _ _ hq)
    obtain ⟨hx, hb, -, hown, hts, hK, hin⟩ := hF
    refine zr_put hx hb hts hown hK.1 (hH.at hz) hc hk ?_ hn.1 hn.2 hl hd kk
    rw [Bool.or_eq_true, Bool.and_eq_true, Bool.and_eq_true, Bool.or_eq_true] at hB
    rcases hB with ⟨hB, hf⟩ | ⟨hB, hf⟩
    · refine Or.inl ⟨hts _ (zgt_of (zmem_in hB) rfl), ?_⟩
      rcases hf with hf | hf
      · exact Or.inl (of_decide_eq_true hf)
      · have hf := of_decide_eq_true hf
        exact Or.inr ⟨hf.1, hin hf.2⟩
    · exact Or.inr ⟨va_Nw.use rfl (hK.2 _ (zmem_in hB) rfl), of_decide_eq_true hf⟩
  · cases hB
theorem zs_putfield (ih : zSnd l G r n) (hd : decode (zB mi) pc = .ok (.putfield ix, len)) (hA : zokA mi pc len (.putfield ix) w = true) (hB : zokB mi (.putfield ix) w u = true) (hq : zx r (zrun r n) (zrun r n) mi pc len (.putfield ix) w lv st h = some (v, g)) : zGo l G r mi v g pc lv st h := by
  obtain rfl := zA3 hA
  have hB2 := hB
  simp only [zokB] at hB2
  split at hB2
  · rename_i q0 hc0
    rw [Bool.and_eq_true] at hB2
    have hty := hB2.2
    change (match w.2.2.1 with
      | 0 => zpia st fun a x t => (zpF r h a w.1 w.2.1 (.int x)).bind fun h => zrun r n mi (pc + 3) lv t h
      | 1 => zpla st fun a x t => (zpF r h a w.1 w.2.1 (.long x)).bind fun h => zrun r n mi (pc + 3) lv t h
      | _ => zpra st fun a x t => (zpF r h a w.1 w.2.1 (.ref x)).bind fun h => zrun r n mi (pc + 3) lv t h) = some (v, g) at hq
    split at hq
    · rename_i hw
      rw [hw] at hty
      have hty := of_decide_eq_true hty
      obtain ⟨a, x, t, rfl, hq2⟩ := zpia_inv hq
      replace hq := hq2
      obtain ⟨h2, e, hq⟩ := zbind_inv hq
      exact zs_put ih hd hB e (fun _ _ => by rw [hty]; exact ⟨rfl, rfl⟩) hq
    · rename_i hw
      rw [hw] at hty
      have hty := of_decide_eq_true hty
      obtain ⟨a, x, t, rfl, hq2⟩ := zpla_inv hq
      replace hq := hq2
      obtain ⟨h2, e, hq⟩ := zbind_inv hq
      exact zs_put ih hd hB e (fun _ _ => by rw [hty]; exact ⟨rfl, rfl⟩) hq
    · rename_i hw0 hw1
      obtain ⟨a, x, t, rfl, hq2⟩ := zpra_inv hq
      replace hq := hq2
      obtain ⟨h2, e, hq⟩ := zbind_inv hq
      refine zs_put ih hd hB e (fun _ _ => ?_) hq
      split at hty
      · rename_i hw2; exact absurd hw2 hw0
      · rename_i hw2; exact absurd hw2 hw1
      · split at hty
        · rename_i hc; rw [hc]; exact ⟨rfl, rfl⟩
        · rename_i hc; rw [hc]; exact ⟨rfl, rfl⟩
        · cases hty
  · cases hB2
theorem zs_getstatic (ih : zSnd l G r n) (hd : decode (zB mi) pc = .ok (.getstatic ix, len)) (hA : zokA mi pc len (.getstatic ix) w = true) (hB : zokB mi (.getstatic ix) w u = true) (hq : zx r (zrun r n) (zrun r n) mi pc len (.getstatic ix) w lv st h = some (v, g)) : zGo l G r mi v g pc lv st h := by
  obtain rfl := zA3 hA
  simp only [zokB] at hB
  split at hB
  · rename_i q hc
    refine (ih _ _ _ _ _ _ _ hq).row fun hF _ hH _ _ k => ?_
    obtain ⟨cf, kf, fi, f, a, cell, h1, h2, h3, h4, h5, h6, h7, h8⟩ := hH.2.2.2 _ q hc
    obtain ⟨hx, hb, -, hown, hts, hK, -⟩ := hF
    rw [Bool.or_eq_true] at hB
    rcases hB with hB | hB
    · exact W.gets hx hb hown (hts _ (zgt_of (zmem_in hB) rfl)) h1 h2 h3 h4 h5 (fun e => by rw [e] at h6; cases h6) h7 rfl hd k
    · exact va_WgetsN hx hb hown (va_Nw.use rfl (hK.2 _ (zmem_in hB) rfl)) h1 h2 h3 h4 h5 (fun e => by rw [e] at h6; cases h6) h7 rfl hd k
  · cases hB
theorem zs_new (ih : zSnd l G r n) (hd : decode (zB mi) pc = .ok (.new ix, len)) (hA : zokA mi pc len (.new ix) w = true) (hB : zokB mi (.new ix) w u = true) (hq : zx r (zrun r n) (zrun r n) mi pc len (.new ix) w lv st h = some (v, g)) : zGo l G r mi v g pc lv st h := by
  obtain rfl := zA3 hA
  simp only [zokB] at hB
  split at hB
  · rename_i q hc
    have hz : zcs (.inr (.inr (w.1, zdf w.1))) = q.2.2 := by simp only [zcs, hc]; rfl
    refine zGo.make (c1 := .inr (.inr (w.1, zdf w.1))) (fun hF hL hH hcl hsl kk => ?_) (ih _ _ _ _ _ _ _ hq)
    obtain ⟨hx, hb, -, hown, hts, hK, -⟩ := hF
    rw [hz] at hsl kk
    refine zr_new hx hb hts hown (hts _ (zgt_of (zmem_in hB) rfl)) hK.1 hc hcl hsl hd fun H1 g1 g2 g3 => ?_
    have k2 := kk H1 g1 g2 g3
    rw [← hH.1] at k2
    exact k2
  · cases hB
theorem zs_newarray (ih : zSnd l G r n) (hd : decode (zB mi) pc = .ok (.newarray .int, len)) (hA : zokA mi pc len (.newarray .int) w = true) (hq : zx r (zrun r n) (zrun r n) mi pc len (.newarray .int) w lv st h = some (v, g)) : zGo l G r mi v g pc lv st h := by
  obtain rfl := zA2 hA
  obtain ⟨x, t, rfl, hq2⟩ := zp1i_inv hq
  replace hq := hq2
  obtain ⟨hc, hq⟩ := zifn_inv hq
  refine zGo.make (c1 := .inl (x.toNatClampNeg, fun _ => 0)) (fun hF hL hH hcl hsl kk => ?_) (ih _ _ _ _ _ _ _ hq)
  obtain ⟨hx, hb, -, hown, hts, hK, -⟩ := hF
  refine zr_newa (D := G.1) hx hb (hts _ (zgt_of (by decide +kernel) rfl)) (hK.1.2 0 _ rfl).2 (fun q => hc (Or.inl q)) (by omega) hcl hsl hd fun H1 g1 g2 g3 => ?_
  have k2 := kk H1 g1 g2 g3
  rw [← hH.1] at k2
  exact k2
theorem zaR {s : State} {c : Nat} {q : vw_C} (hK : zKS G s) (hw : c = 4 ∨ c = 2) (hc : zcls[c]? = some q) : ArrOfT s (G.2.2 c) (.object q.1) ∧ va_RA s (G.2.2 c) (.object q.1) := by
  rcases hw with rfl | rfl
  · cases hc; exact hK.1.2 1 _ rfl
  · cases hc; exact hK.1.2 2 _ rfl
theorem zs_anewarray (ih : zSnd l G r n) (hd : decode (zB mi) pc = .ok (.anewarray ix, len)) (hA : zokA mi pc len (.anewarray ix) w = true) (hB : zokB mi (.anewarray ix) w u = true) (hq : zx r (zrun r n) (zrun r n) mi pc len (.anewarray ix) w lv st h = some (v, g)) : zGo l G r mi v g pc lv st h := by
  obtain rfl := zA3 hA
  obtain ⟨x, t, rfl, hq2⟩ := zp1i_inv hq
  replace hq := hq2
  obtain ⟨hcc, hq⟩ := zifn_inv hq
  simp only [zokB] at hB
  split at hB
  · rename_i q hc
    rw [Bool.and_eq_true, Bool.and_eq_true] at hB
    obtain ⟨⟨hB1, hB2⟩, hB3⟩ := hB
    have hB3 := of_decide_eq_true hB3
    refine zGo.make (c1 := .inr (.inl (w.1, x.toNatClampNeg, fun _ => none))) (fun hF hL hH hcl hsl kk => ?_) (ih _ _ _ _ _ _ _ hq)
    obtain ⟨hx, hb, -, hown, hts, hK, -⟩ := hF
    obtain ⟨kA, comp, -, -, -, hnm⟩ := (zaR hK hB3 hc).2
    refine zr_newq (D := G.1) hx hb hown (hts _ (zgt_of (zmem_in hB1) rfl)) (va_AO.use (hK.2 _ (zmem_in hB2) rfl)) hnm (fun q => hcc (Or.inl q)) (by omega) hcl hsl hd fun H1 g1 g2 g3 => ?_
    have k2 := kk H1 g1 g2 g3
    rw [← hH.1] at k2
    exact k2
  · cases hB
theorem zs_iaload (ih : zSnd l G r n) (hd : decode (zB mi) pc = .ok (.iaload, len)) (hA : zokA mi pc len .iaload w = true) (hq : zx r (zrun r n) (zrun r n) mi pc len .iaload w lv st h = some (v, g)) : zGo l G r mi v g pc lv st h := by
  obtain rfl := zA1 hA
  obtain ⟨a, i, t, rfl, hq2⟩ := zpia_inv hq
  replace hq := hq2
  obtain ⟨x, e, hq⟩ := zbind_inv hq
  obtain ⟨N, f, hz, hin, rfl⟩ := zaI_inv e
  refine (ih _ _ _ _ _ _ _ hq).row fun hF _ hH _ _ k => ?_
  obtain ⟨hx, hb, -, hown, hts, hK, -⟩ := hF
  rcases hz with hz | ⟨ha, hz⟩
  · have hat : va_at G.1 zcls (a, .inl (G.2.1, N, .inl f)) _ := hH.at hz
    exact va_iald hx hb hK.1 (zP1 hat) 0 0 rfl rfl hin hd k
  · obtain ⟨cell, h1, h2, h3, h4, h5, h6, h7⟩ := hH.2.2.1 a _ hz
    have hlt : i.toNatClampNeg < N := Nat.not_le.mp fun q => hin (Or.inr q)
    exact W.iald hx hb h1 h2 h3 (fun q => q.elim (fun q => hin (Or.inl q)) (fun q => by dsimp only at h4; omega)) (h6 _ hlt) rfl rfl hd k
theorem zs_caload (ih : zSnd l G r n) (hd : decode (zB mi) pc = .ok (.caload, len)) (hA : zokA mi pc len .caload w = true) (hq : zx r (zrun r n) (zrun r n) mi pc len .caload w lv st h = some (v, g)) : zGo l G r mi v g pc lv st h := by
  obtain rfl := zA1 hA
  obtain ⟨a, i, t, rfl, hq2⟩ := zpia_inv hq
  replace hq := hq2
  obtain ⟨x, e, hq⟩ := zbind_inv hq
  obtain ⟨N, f, ⟨ha, hz⟩, hin, rfl⟩ := zaC_inv e
  refine (ih _ _ _ _ _ _ _ hq).row fun hF _ hH _ _ k => ?_
  obtain ⟨hx, hb, -, hown, hts, hK, -⟩ := hF
  obtain ⟨cell, h1, h2, h3, h4, h5, h6, h7⟩ := hH.2.2.1 a _ hz
  have hlt : i.toNatClampNeg < N := Nat.not_le.mp fun q => hin (Or.inr q)
  exact W.cald hx hb h1 h2 h3 (fun q => q.elim (fun q => hin (Or.inl q)) (fun q => by dsimp only at h4; omega)) (h6 _ hlt) rfl rfl hd k
theorem zs_aaload (ih : zSnd l G r n) (hd : decode (zB mi) pc = .ok (.aaload, len)) (hA : zokA mi pc len .aaload w = true) (hq : zx r (zrun r n) (zrun r n) mi pc len .aaload w lv st h = some (v, g)) : zGo l G r mi v g pc lv st h := by
  obtain rfl := zA1 hA
  obtain ⟨a, i, t, rfl, hq2⟩ := zpia_inv hq
  replace hq := hq2
  obtain ⟨x, e, hq⟩ := zbind_inv hq
  obtain ⟨c, N, f, hz, hc, hin, rfl⟩ := zaQ_inv e
  have hq2 : zrun r n mi (pc + 1) lv (va_rf (f i.toNatClampNeg) :: t) h = some (v, g) := by
    revert hq
    cases f i.toNatClampNeg <;> exact fun hq => hq
  refine (ih _ _ _ _ _ _ _ hq2).row fun hF _ hH _ _ k => ?_
  obtain ⟨hx, hb, -, hown, hts, hK, -⟩ := hF
  have hat : va_at G.1 zcls (a, .inl (G.2.2 c, N, .inr (.inr (.inr (.inr f))))) _ := hH.at hz
  rcases hc with rfl | rfl
  · exact va_aldq hx hb hK.1 (zP1 hat) 0 1 rfl rfl hin hd k
  · exact va_aldq hx hb hK.1 (zP1 hat) 0 2 rfl rfl hin hd k
theorem zs_iastore (ih : zSnd l G r n) (hd : decode (zB mi) pc = .ok (.iastore, len)) (hA : zokA mi pc len .iastore w = true) (hq : zx r (zrun r n) (zrun r n) mi pc len .iastore w lv st h = some (v, g)) : zGo l G r mi v g pc lv st h := by
  obtain rfl := zA1 hA
  obtain ⟨a, i, x, t, rfl, hq2⟩ := zpiia_inv hq
  replace hq := hq2
  obtain ⟨h2, e, hq⟩ := zbind_inv hq
  obtain ⟨N, f, hz, hin, rfl⟩ := zsI_inv e
  refine zGo.write (c1 := .inl (N, upd f i.toNatClampNeg x)) hz rfl (fun hF hL hH _ _ kk => ?_) (ih _ _ _ _ _ _ _ hq)
  obtain ⟨hx, hb, -, hown, hts, hK, -⟩ := hF
  exact zr_iast hx hb (hK.1.2 0 _ rfl).1 (hH.at hz) hin hd kk
theorem zs_aastore (ih : zSnd l G r n) (hd : decode (zB mi) pc = .ok (.aastore, len)) (hA : zokA mi pc len .aastore w = true) (hq : zx r (zrun r n) (zrun r n) mi pc len .aastore w lv st h = some (v, g)) : zGo l G r mi v g pc lv st h := by
  obtain rfl := zA1 hA
  obtain ⟨a, i, x, t, rfl, hq2⟩ := zpria_inv hq
  replace hq := hq2
  obtain ⟨h2, e, hq⟩ := zbind_inv hq
  obtain ⟨c, N, f, vs, hz, hc, hv, hin, rfl⟩ := zsQ_inv e
  refine zGo.write (c1 := .inr (.inl (c, N, va_up f i.toNatClampNeg (some x)))) hz rfl (fun hF hL hH _ _ kk => ?_) (ih _ _ _ _ _ _ _ hq)
  obtain ⟨hx, hb, -, hown, hts, hK, -⟩ := hF
  have hcl : ∃ q, zcls[c]? = some q := by rcases hc with rfl | rfl <;> exact ⟨_, rfl⟩
  obtain ⟨q, hcl⟩ := hcl
  exact zr_aast hx hb hK.1 (zaR hK hc hcl).2 (hH.at hz) (hH.at hv) hcl hin hd kk
theorem zs_alen (ih : zSnd l G r n) (hd : decode (zB mi) pc = .ok (.arraylength, len)) (hA : zokA mi pc len .arraylength w = true) (hq : zx r (zrun r n) (zrun r n) mi pc len .arraylength w lv st h = some (v, g)) : zGo l G r mi v g pc lv st h := by
  obtain rfl := zA1 hA
  obtain ⟨a, t, rfl, hq2⟩ := zp1r_inv hq
  replace hq := hq2
  obtain ⟨N, e, hq⟩ := zbind_inv hq
  refine (ih _ _ _ _ _ _ _ hq).row fun hF _ hH _ _ k => ?_
  obtain ⟨hx, hb, -, hown, hts, hK, -⟩ := hF
  rcases zaN_inv e with ⟨f, hz⟩ | ⟨c, f, hz, hc⟩ | ⟨b, f, ha, hz⟩
  · have hat : va_at G.1 zcls (a, .inl (G.2.1, N, .inl f)) _ := hH.at hz
    exact va_alen hx hb hK.1 (zP1 hat) 0 0 rfl rfl rfl hd k
  · have hat : va_at G.1 zcls (a, .inl (G.2.2 c, N, .inr (.inr (.inr (.inr f))))) _ := hH.at hz
    rcases hc with rfl | rfl
    · exact va_alen hx hb hK.1 (zP1 hat) 0 1 rfl rfl rfl hd k
    · exact va_alen hx hb hK.1 (zP1 hat) 0 2 rfl rfl rfl hd k
  · obtain ⟨cell, h1, h2, h3, h4, h5, h6, h7⟩ := hH.2.2.1 a _ hz
    exact W.alen (n := Int32.ofNat N) hx hb h1 h2 h5 rfl rfl hd k
end STEPH
