/-! THE LAW'S WALK: by whom, and which line -/
section WB
variable {r : zE} {C : zCs} {d : Nat} {M : Nat → zDk} {K : Nat → Option (Nat × (Nat → zDk))} {W Tx : Nat → Option (List Int32)} {Ga Va : zA} {n : Nat} {h : zH} {b tn : Nat} {bg dg : Int64} {x hg sm mo ar S wo i0 : Int32} {m w : Nat}
theorem w_677 (hm : m < C.2.1) {l21 l22 v t u : Int32} (hv : v = (M d).2.1 m → t = u)
    (kk : ∀ h, zSx r C d M K W Tx Ga Va n h → zOK (zev r i_L_law 220 [some (.ref b), some (.ref (r.1 + 0)), some (.ref (r.1 + 49)), some (.ref (r.1 + 50)), some (.int (nI C.2.1)), some (.long bg), none, some (.int (nI tn)), some (.int (x)), some (.int (hg)), some (.int (nI d)), some (.long (dg)), none, some (.int (nI w)), some (.int (sm)), some (.int (mo)), some (.int (ar)), some (.int (nI (m + 1))), none, none, none, none, none, none, none, none, none, none, none] [] h)) (sx : zSx r C d M K W Tx Ga Va n h) : zOK (zev r i_L_law 677 [some (.ref b), some (.ref (r.1 + 0)), some (.ref (r.1 + 49)), some (.ref (r.1 + 50)), some (.int (nI C.2.1)), some (.long bg), none, some (.int (nI tn)), some (.int (x)), some (.int (hg)), some (.int (nI d)), some (.long (dg)), none, some (.int (nI w)), some (.int (sm)), some (.int (mo)), some (.int (ar)), some (.int (nI m)), some (.int (S)), some (.int (wo)), some (.int (i0)), some (.int (l21)), some (.int (l22)), some (.int (v)), some (.int (t)), some (.int (u)), none, none, none] [] h) := by
  obtain ⟨ta, tu, tl, st⟩ := sx
  obtain ⟨h1, e1, sx1⟩ := w_told1 hm st
  rw [E_L_law_677, e1, zcI_some]
  by_cases c : v = (M d).2.1 m
  · rw [if_pos c, if_pos (hv c), nI_1]; exact kk h1 sx1
  · rw [if_neg c, nI_1]; exact kk h1 sx1
theorem va_old {α : Type} {M : Nat → α} {d : Nat} {D : α} : ∀ j, j ≤ d → M j = va_up M (d + 1) D j := fun j hj => (va_ne (by omega)).symm
theorem w_588 (E : zEk r) (h6 : d < 60) (hw : w < 3) (hm : m < C.2.1) {l21 l22 : Int32}
    (kk : ∀ h, zSx r C d M K W Tx Ga Va n h → zOK (zev r i_L_law 220 [some (.ref b), some (.ref (r.1 + 0)), some (.ref (r.1 + 49)), some (.ref (r.1 + 50)), some (.int (nI C.2.1)), some (.long bg), none, some (.int (nI tn)), some (.int (x)), some (.int (hg)), some (.int (nI d)), some (.long (dg)), none, some (.int (nI w)), some (.int (sm)), some (.int (mo)), some (.int (ar)), some (.int (nI (m + 1))), none, none, none, none, none, none, none, none, none, none, none] [] h)) (sx : zSx r C d M K W Tx Ga Va n h) : zOK (zev r i_L_law 588 [some (.ref b), some (.ref (r.1 + 0)), some (.ref (r.1 + 49)), some (.ref (r.1 + 50)), some (.int (nI C.2.1)), some (.long bg), none, some (.int (nI tn)), some (.int (x)), some (.int (hg)), some (.int (nI d)), some (.long (dg)), none, some (.int (nI w)), some (.int (sm)), some (.int (mo)), some (.int (ar)), some (.int (nI m)), some (.int (S)), some (.int (wo)), some (.int (i0)), some (.int (l21)), some (.int (l22)), none, none, none, none, none, none] [] h) := by
  obtain ⟨ta, tu, tl, st⟩ := sx
  have k := st_k st
  have ok := st_ok st
  obtain ⟨v, v1, v9, ev, et, hy⟩ := cut_ok k ok.2.1 ok.1.1 hm (nI w)
  obtain ⟨a, a1, a9, ea⟩ := ok.2.1 m hm
  have hL : upd (M d).2.1 m (nI a) = (M d).2.1 := by rw [← ea]; exact upd_self _ _
  obtain ⟨h1, e1, st1⟩ := ck_cut E hm hw st
  have e2 := ck_asked st1
  obtain ⟨h3, e3, st3⟩ := ck_all E hw st1
  obtain ⟨h4, e4, sx4⟩ := w_told1 hm st3
  rw [ev] at e1
  have nl := hy a a1 a9
  rw [hL] at nl
  have n1 : ¬ nI v < 1 := nI_nlt (b := 1) v1 (by omega)
  have n9 : ¬ (9 : Int32) < nI v := nI_nlt (a := 9) (by omega) (by decide)
  rw [E_L_law_588, if_pos (st_ob st), e1, zcI_some, if_pos (st_ob st1), e2, zcI_some, if_pos (st_ob st1), e3, zcI_some, if_neg n1, if_neg n9, if_neg nl, e4, zcI_some]
  by_cases c : nI v = (M d).2.1 m
  · rw [if_pos c]
    refine w_677 hm (fun q => ?_) kk sx4
    rw [et, q, upd_self]
  · rw [if_neg c]
    obtain ⟨ta4, tu4, tl4, st4⟩ := sx4
    obtain ⟨h5, e5, st5⟩ := ck_line hm v1 v9 (fun q => c q.symm) h6 st4
    obtain ⟨h7, e7, st7⟩ := ck_all E hw st5
    rw [va_same] at e7 st7
    obtain ⟨h8, e8, st8⟩ := ck_undo (e := d) (M' := M) (by omega) va_old st7
    rw [show d + 1 - d = 1 by omega, nl1] at e8
    have n5 : ¬ (M d).2.1 m < 1 := by rw [ea]; exact nI_nlt (b := 1) a1 (by omega)
    rw [if_pos (st_ob st4), e5, zcI_some, if_neg n5, if_pos (st_ob st5), e7, zcI_some, if_pos et.symm, if_pos (st_ob st7), e8, zcI_some, if_pos rfl]
    exact w_677 hm (fun q => absurd q c) kk (sx_of st8)
theorem w_471 (E : zEk r) (h6 : d < 60) (hw : w < 3) (hm : m < C.2.1) (hi : i0 = sIn C (M d).1 m (nI w)) (hS : S = sBe C (M d).1 m (nI w)) (ho : wo = sWo C (M d).1 (M d).2.1 m (nI w) (-9)) {j : Int32}
    (kk : ∀ h, zSx r C d M K W Tx Ga Va n h → zOK (zev r i_L_law 220 [some (.ref b), some (.ref (r.1 + 0)), some (.ref (r.1 + 49)), some (.ref (r.1 + 50)), some (.int (nI C.2.1)), some (.long bg), none, some (.int (nI tn)), some (.int (x)), some (.int (hg)), some (.int (nI d)), some (.long (dg)), none, some (.int (nI w)), some (.int (sm)), some (.int (mo)), some (.int (ar)), some (.int (nI (m + 1))), none, none, none, none, none, none, none, none, none, none, none] [] h)) (sx : zSx r C d M K W Tx Ga Va n h) : zOK (zev r i_L_law 471 [some (.ref b), some (.ref (r.1 + 0)), some (.ref (r.1 + 49)), some (.ref (r.1 + 50)), some (.int (nI C.2.1)), some (.long bg), none, some (.int (nI tn)), some (.int (x)), some (.int (hg)), some (.int (nI d)), some (.long (dg)), none, some (.int (nI w)), some (.int (sm)), some (.int (mo)), some (.int (ar)), some (.int (nI m)), some (.int (S)), some (.int (wo)), some (.int (i0)), some (.int (j)), none, none, none, none, none, none, none] [] h) := by
  obtain ⟨ta, tu, tl, st⟩ := sx
  have k := st_k st
  have k1 := k.1
  have k2 := k.2.1
  have ok := st_ok st
  obtain ⟨h1, e1, st1⟩ := ck_by E hm hw st
  have e2 := ck_asked st1
  have none : ∀ y s, zOK (zev r i_L_law 512 [some (.ref b), some (.ref (r.1 + 0)), some (.ref (r.1 + 49)), some (.ref (r.1 + 50)), some (.int (nI C.2.1)), some (.long bg), none, some (.int (nI tn)), some (.int (x)), some (.int (hg)), some (.int (nI d)), some (.long (dg)), none, some (.int (nI w)), some (.int (sm)), some (.int (mo)), some (.int (ar)), some (.int (nI m)), some (.int (S)), some (.int (wo)), some (.int (i0)), some (.int ((-9))), some (.int (y)), none, none, none, none, none, none] [.int (s), .int (s)] h1) := fun y s => by
    rw [E_L_law_512, if_pos rfl, if_pos (by decide)]
    exact w_588 E h6 hw hm kk (sx_of st1)
  by_cases c : i0 = 0
  · have eb : yBq C (M d).1 (M d).2.1 m (nI w) = (-9, -1) := if_pos (hi.symm.trans c)
    rw [eb] at e1
    rw [E_L_law_471, if_pos (st_ob st), e1, zcI_some, if_pos (st_ob st1), e2, zcI_some, if_pos (by decide), if_pos c]
    exact none _ 0
  · have hin : ¬ sIn C (M d).1 m (nI w) = 0 := by rw [← hi]; exact c
    have eb : yBq C (M d).1 (M d).2.1 m (nI w) = zfd (yBy C (M d).1 (M d).2.1 m (nI w)) 0 C.2.1 (-9, -1) := if_neg hin
    rcases by_ok (C := C) (H := (M d).1) (L := (M d).2.1) m (nI w) C.2.1 (fun q hq => sWo_less k (l1_lk ok.2.1) ok.1.1 hm hq (nI w)) with ⟨e, hn⟩ | ⟨q, hq, hb, e⟩
    · rw [eb, e] at e1
      have s0 : S = 0 := by rw [hS]; exact (be_0 k m (nI w)).mpr hn
      rw [E_L_law_471, if_pos (st_ob st), e1, zcI_some, if_pos (st_ob st1), e2, zcI_some, if_pos (by decide), if_neg c, if_pos s0]
      exact none _ 0
    · rw [eb, e] at e1 e2
      have q9 : ¬ nI q = -9 := nI_n9 (by omega)
      rw [if_neg q9] at e2
      have s0 : ¬ S = 0 := by rw [hS]; exact fun z => hb ((be_0 k m (nI w)).mp z q hq)
      have qp : ¬ nI q < 0 := nI_pos (by omega)
      rw [E_L_law_471, if_pos (st_ob st), e1, zcI_some, if_pos (st_ob st1), e2, zcI_some, if_neg qp, if_neg c, if_neg s0]
      have hh := in_hangs (bes_ne hb).1
      obtain ⟨a, ha, ea⟩ := (ok.1.1 q hq).resolve_left hh
      have hqm : q ≠ m := fun z => hb (by rw [z]; exact sBes_self)
      have bit : (S >>> (nI q &&& 31)) &&& 1 = 1 := by rw [hS, be_bit k hq, if_neg hb]
      have less := sWo_less k (l1_lk ok.2.1) ok.1.1 hm hq (nI w)
      obtain ⟨h2, e3, st2⟩ := ck_down hq hh h6 st1
      have e4 := ck_woken E hm hw st2
      rw [va_same] at e4
      dsimp only at e4
      rw [sWo_but k hq hqm] at e4
      obtain ⟨h3, e5, st3⟩ := ck_undo (e := d) (M' := M) (by omega) va_old st2
      rw [show d + 1 - d = 1 by omega, nl1] at e5
      have e6 := ck_woken E hm hw st3
      have np : ¬ (M d).1 q < 0 := by rw [ea]; exact nI_pos (by omega)
      rw [E_L_law_512, if_pos rfl, if_neg qp, if_pos bit, if_neg less, if_pos (st_ob st1), e3, zcI_some, if_neg np, if_pos (st_ob st2), e4, zcI_some, if_pos (by rw [ho, sub_sub_self32]), if_pos (st_ob st2), e5, zcI_some, if_pos rfl, if_pos (st_ob st3), e6, zcI_some, if_pos ho.symm]
      exact w_588 E h6 hw hm kk (sx_of st3)
end WB
