/-! THE LAW'S WALK: all men, the worst, calm -/
section WM
variable {r : zE} {C : zCs} {d : Nat} {M : Nat → zDk} {K : Nat → Option (Nat × (Nat → zDk))} {W Tx : Nat → Option (List Int32)} {Ga Va : zA} {n : Nat} {h : zH} {b tn : Nat} {bg dg : Int64} {x hg sm mo ar S wo i0 : Int32} {m w : Nat}
theorem w_295 (E : zEk r) (h6 : d < 60) (k : zCk C) (ok : zOk C (M d)) (hw : w < 3) (hm : m < C.2.1) (hi : i0 = sIn C (M d).1 m (nI w)) (hS : S = sBe C (M d).1 m (nI w)) (ho : wo = sWo C (M d).1 (M d).2.1 m (nI w) (-9))
    (kk : ∀ h, zSx r C d M K W Tx Ga Va n h → zOK (zev r i_L_law 220 [some (.ref b), some (.ref (r.1 + 0)), some (.ref (r.1 + 49)), some (.ref (r.1 + 50)), some (.int (nI C.2.1)), some (.long bg), none, some (.int (nI tn)), some (.int (x)), some (.int (hg)), some (.int (nI d)), some (.long (dg)), none, some (.int (nI w)), some (.int (sm + wo)), some (.int (if i0 = 0 then mo else if mo < wo then wo else mo)), some (.int (ar + i0)), some (.int (nI (m + 1))), none, none, none, none, none, none, none, none, none, none, none] [] h)) (sx : zSx r C d M K W Tx Ga Va n h) : zOK (zev r i_L_law 295 [some (.ref b), some (.ref (r.1 + 0)), some (.ref (r.1 + 49)), some (.ref (r.1 + 50)), some (.int (nI C.2.1)), some (.long bg), none, some (.int (nI tn)), some (.int (x)), some (.int (hg)), some (.int (nI d)), some (.long (dg)), none, some (.int (nI w)), some (.int (sm)), some (.int (mo)), some (.int (ar)), some (.int (nI m)), some (.int (S)), some (.int (wo)), some (.int (i0)), none, none, none, none, none, none, none, none] [.int (i0), .int (ar)] h) := by
  obtain ⟨y, hy, ey⟩ := lim_sWo k (l1_lk ok.2.1) ok.1.1 hm (nI w) (-9)
  have np : ¬ wo < 0 := by rw [ho, ey]; exact nI_pos (by omega)
  rw [E_L_law_295]
  by_cases c : i0 = 0
  · have w0 : wo = 0 := by rw [ho]; unfold sWo; rw [if_pos (hi.symm.trans c)]
    rw [if_pos c, if_neg np, if_pos c, if_pos w0]
    rw [if_pos c] at kk
    exact w_341 k ok.1 hw hm hi hS (fun h j sx => w_471 E h6 hw hm hi hS ho kk sx) sx
  · rw [if_neg c]
    rw [if_neg c] at kk
    by_cases z : mo < wo
    · rw [if_pos z, if_neg np, if_neg c]
      rw [if_pos z] at kk
      exact w_341 k ok.1 hw hm hi hS (fun h j sx => w_471 E h6 hw hm hi hS ho kk sx) sx
    · rw [if_neg z, if_neg np, if_neg c]
      rw [if_neg z] at kk
      exact w_341 k ok.1 hw hm hi hS (fun h j sx => w_471 E h6 hw hm hi hS ho kk sx) sx
/-- where a pair is told -/
theorem w_816 (E : zEk r) (hw : w < 3) {y1 y2 P cl s : Int32} (hP : P = zfd (yCo C (M d).1 (M d).2.1 (nI w)) 0 C.2.1 (-9))
    (kk : ∀ h, zSx r C d M K W Tx Ga Va n h → zOK (zev r i_L_law 864 [some (.ref b), some (.ref (r.1 + 0)), some (.ref (r.1 + 49)), some (.ref (r.1 + 50)), some (.int (nI C.2.1)), some (.long bg), none, some (.int (nI tn)), some (.int (x)), some (.int (hg)), some (.int (nI d)), some (.long (dg)), none, some (.int (nI w)), some (.int (sm)), some (.int (mo)), some (.int (ar)), some (.int (y1)), some (.int (y2)), some (.int (cl)), some (.int (P)), some (.int (0)), none, none, none, none, none, none, none] [] h)) (hs : s = cl) (sx : zSx r C d M K W Tx Ga Va n h) : zOK (zev r i_L_law 816 [some (.ref b), some (.ref (r.1 + 0)), some (.ref (r.1 + 49)), some (.ref (r.1 + 50)), some (.int (nI C.2.1)), some (.long bg), none, some (.int (nI tn)), some (.int (x)), some (.int (hg)), some (.int (nI d)), some (.long (dg)), none, some (.int (nI w)), some (.int (sm)), some (.int (mo)), some (.int (ar)), some (.int (y1)), some (.int (y2)), some (.int (cl)), some (.int (P)), none, none, none, none, none, none, none, none] [.int (s), .int (cl)] h) := by
  obtain ⟨ta, tu, tl, st⟩ := sx
  have k := st_k st
  have k2 := k.2.1
  have ok := st_ok st
  rw [E_L_law_816, if_pos hs.symm]
  rcases pair_ok (C := C) (H := (M d).1) (L := (M d).2.1) (nI w) k2 with ⟨e, -⟩ | ⟨m, q, hmq, hq, -, e, -⟩
  · rw [if_pos (by rw [hP, e]; decide)]
    exact kk h (sx_of st)
  · have ep : P = nI (6 * m + q) := hP.trans e
    have hd : P / 6 = nI m := by
      rw [ep, show (6 : Int32) = nI 6 from rfl, pk_div (by omega) (by decide) (by decide), show (6 * m + q) / 6 = m by omega]
    have hr : P - P / 6 * 6 = nI q := by
      rw [ep, show (6 : Int32) = nI 6 from rfl, pk_rem (by omega) (by decide) (by decide), show (6 * m + q) % 6 = q by omega]
    obtain ⟨h1, e1, st1⟩ := ck_gain E (show m < C.2.1 by omega) hq (by omega) hw st
    obtain ⟨a, ha, ea⟩ := lim_sAll2 k (l1_lk ok.2.1) ok.1.1 (nI w)
    obtain ⟨a', ha', ea'⟩ := lim_sAll2 k (l1_lk ok.2.1) (sw_vd2 (show m < C.2.1 by omega) hq ok.1.1) (nI w)
    rw [ea, ea'] at e1
    rw [if_neg (by rw [ep]; exact nI_pos (by omega)), if_neg (by decide), if_neg (by decide), if_pos (st_ob st), hr, hd, e1, zcI_some, if_neg (gain_lim ha ha'), if_neg (by decide), if_neg (by decide), if_pos (nI_lt hmq (by omega))]
    exact kk h1 (sx_of st1)
theorem w_760 (E : zEk r) (hw : w < 3) {y1 y2 s : Int32} (hy : y1 < 0 ∨ ∃ q, q < C.2.1 ∧ y1 = nI q ∧ y2 = mo ∧ mo = sWo C (M d).1 (M d).2.1 q (nI w) (-9))
    (kk : ∀ h, zSx r C d M K W Tx Ga Va n h → zOK (zev r i_L_law 864 [some (.ref b), some (.ref (r.1 + 0)), some (.ref (r.1 + 49)), some (.ref (r.1 + 50)), some (.int (nI C.2.1)), some (.long bg), none, some (.int (nI tn)), some (.int (x)), some (.int (hg)), some (.int (nI d)), some (.long (dg)), none, some (.int (nI w)), some (.int (sm)), some (.int (mo)), some (.int (ar)), some (.int (y1)), some (.int (y2)), some (.int (if zfd (yCo C (M d).1 (M d).2.1 (nI w)) 0 C.2.1 (-9) = -9 then 1 else 0)), some (.int (zfd (yCo C (M d).1 (M d).2.1 (nI w)) 0 C.2.1 (-9))), some (.int (0)), none, none, none, none, none, none, none] [] h)) (sx : zSx r C d M K W Tx Ga Va n h) : zOK (zev r i_L_law 760 [some (.ref b), some (.ref (r.1 + 0)), some (.ref (r.1 + 49)), some (.ref (r.1 + 50)), some (.int (nI C.2.1)), some (.long bg), none, some (.int (nI tn)), some (.int (x)), some (.int (hg)), some (.int (nI d)), some (.long (dg)), none, some (.int (nI w)), some (.int (sm)), some (.int (mo)), some (.int (ar)), some (.int (y1)), some (.int (y2)), none, none, none, none, none, none, none, none, none, none] [.int (s), .int (s)] h) := by
  obtain ⟨ta, tu, tl, st⟩ := sx
  have k := st_k st
  have k2 := k.2.1
  obtain ⟨h1, e1, st1⟩ := ck_calm E hw st
  have e2 := ck_asked st1
  have sg : (zfd (yCo C (M d).1 (M d).2.1 (nI w)) 0 C.2.1 (-9) < 0 ∧ zfd (yCo C (M d).1 (M d).2.1 (nI w)) 0 C.2.1 (-9) = -9) ∨ (¬ zfd (yCo C (M d).1 (M d).2.1 (nI w)) 0 C.2.1 (-9) < 0 ∧ ¬ zfd (yCo C (M d).1 (M d).2.1 (nI w)) 0 C.2.1 (-9) = -9) := by
    rcases pair_ok (C := C) (H := (M d).1) (L := (M d).2.1) (nI w) k2 with ⟨e, -⟩ | ⟨m, q, hmq, hq, -, e, -⟩
    · exact .inl ⟨by rw [e]; decide, e⟩
    · exact .inr ⟨by rw [e]; exact nI_pos (by omega), by rw [e]; exact nI_n9 (by omega)⟩
  rw [E_L_law_760, if_pos rfl]
  rcases hy with hy | ⟨q, hq, e1q, e2q, e3q⟩
  · rw [if_pos hy, if_pos (st_ob st), e1, zcI_some, if_pos (st_ob st1), e2, zcI_some]
    rcases sg with ⟨s1, s2⟩ | ⟨s1, s2⟩
    · rw [if_pos s1]
      exact w_816 E hw rfl kk (by rw [if_pos s2]) (sx_of st1)
    · rw [if_neg s1]
      exact w_816 E hw rfl kk (by rw [if_neg s2]) (sx_of st1)
  · have e4 := ck_woken E hq hw st
    rw [e1q, if_neg (nI_pos (by omega)), if_pos e2q, if_pos (st_ob st), e4, zcI_some, if_pos e3q.symm, if_pos (st_ob st), e1, zcI_some, if_pos (st_ob st1), e2, zcI_some]
    rw [e1q] at kk
    rcases sg with ⟨s1, s2⟩ | ⟨s1, s2⟩
    · rw [if_pos s1]
      exact w_816 E hw rfl kk (by rw [if_pos s2]) (sx_of st1)
    · rw [if_neg s1]
      exact w_816 E hw rfl kk (by rw [if_neg s2]) (sx_of st1)
theorem w_220 (E : zEk r) (h6 : d < 60) (k : zCk C) (ok : zOk C (M d)) (hw : w < 3)
    (kk : ∀ h y1 y2, zSx r C d M K W Tx Ga Va n h → zOK (zev r i_L_law 864 [some (.ref b), some (.ref (r.1 + 0)), some (.ref (r.1 + 49)), some (.ref (r.1 + 50)), some (.int (nI C.2.1)), some (.long bg), none, some (.int (nI tn)), some (.int (x)), some (.int (hg)), some (.int (nI d)), some (.long (dg)), none, some (.int (nI w)), some (.int (sAll C (M d).1 (M d).2.1 (nI w))), some (.int ((zfd (yWst C (M d).1 (M d).2.1 (nI w)) 0 C.2.1 (-9, -1)).2)), some (.int (sMany C (M d).1 (nI w))), some (.int (y1)), some (.int (y2)), some (.int (if zfd (yCo C (M d).1 (M d).2.1 (nI w)) 0 C.2.1 (-9) = -9 then 1 else 0)), some (.int (zfd (yCo C (M d).1 (M d).2.1 (nI w)) 0 C.2.1 (-9))), some (.int (0)), none, none, none, none, none, none, none] [] h)) :
    ∀ q m h, m + q = C.2.1 → zSx r C d M K W Tx Ga Va n h → zOK (zev r i_L_law 220 [some (.ref b), some (.ref (r.1 + 0)), some (.ref (r.1 + 49)), some (.ref (r.1 + 50)), some (.int (nI C.2.1)), some (.long bg), none, some (.int (nI tn)), some (.int (x)), some (.int (hg)), some (.int (nI d)), some (.long (dg)), none, some (.int (nI w)), some (.int (zfd (fun a m => a + sWo C (M d).1 (M d).2.1 m (nI w) (-9)) 0 m 0)), some (.int ((zfd (yWst C (M d).1 (M d).2.1 (nI w)) 0 m (-9, -1)).2)), some (.int (zfd (fun (a : Int32) p => if sIn C (M d).1 p (nI w) = 0 then a else a + 1) 0 m 0)), some (.int (nI m)), none, none, none, none, none, none, none, none, none, none, none] [] h) := by
  have k1 := k.1
  have k2 := k.2.1
  intro q
  induction q with
  | zero =>
    intro m h e sx
    have : m = C.2.1 := by omega
    subst this
    obtain ⟨ta, tu, tl, st⟩ := sx
    obtain ⟨h1, e1, st1⟩ := ck_all E hw st
    have e2 := ck_asked st1
    obtain ⟨h3, e3, st3⟩ := ck_worst E hw st1
    have e4 := ck_asked st3
    obtain ⟨z, hz, ez, z0, -⟩ := many_le (C := C) (H := (M d).1) (nI w) C.2.1
    have wk := worst_ok (C := C) (H := (M d).1) (L := (M d).2.1) (nI w) C.2.1 (fun p hp => lim_sWo k (l1_lk ok.2.1) ok.1.1 hp (nI w) (-9))
    have eA : sAll C (M d).1 (M d).2.1 (nI w) = zfd (fun a m => a + sWo C (M d).1 (M d).2.1 m (nI w) (-9)) 0 C.2.1 0 := rfl
    have eM : sMany C (M d).1 (nI w) = zfd (fun (a : Int32) p => if sIn C (M d).1 p (nI w) = 0 then a else a + 1) 0 C.2.1 0 := rfl
    rw [E_L_law_220, if_neg (nI_nlt (Nat.le_refl _) (by omega)), if_pos (st_ob st), e1, zcI_some, if_pos eA, if_pos (st_ob st1), e2, zcI_some, if_pos eM, if_pos (st_ob st1), e3, zcI_some, if_pos (st_ob st3), e4, zcI_some]
    rcases wk with ⟨eT, hn⟩ | ⟨p, hp, hpi, eT⟩
    · have a0 : ¬ (0 : Int32) < zfd (fun (a : Int32) p => if sIn C (M d).1 p (nI w) = 0 then a else a + 1) 0 C.2.1 0 := by
        rw [ez, z0.mpr hn]; decide
      rw [if_pos (by rw [eT]; decide), if_neg a0]
      exact w_760 E hw (.inl (by rw [eT]; decide)) (fun h sx => kk h _ _ sx) (sx_of st3)
    · have a0 : (0 : Int32) < zfd (fun (a : Int32) p => if sIn C (M d).1 p (nI w) = 0 then a else a + 1) 0 C.2.1 0 := by
        rw [ez]
        exact nI_lt (a := 0) (Nat.pos_of_ne_zero fun y => hpi (z0.mp y p hp)) (by omega)
      have p9 : ¬ nI p = -9 := nI_n9 (by omega)
      rw [if_neg (by rw [eT]; exact nI_pos (by omega)), if_pos a0]
      exact w_760 E hw (.inr ⟨p, hp, by rw [eT], by rw [eT]; exact if_neg p9, by rw [eT]⟩) (fun h sx => kk h _ _ sx) (sx_of st3)
  | succ q ih =>
    intro m h e sx
    have hm : m < C.2.1 := by omega
    obtain ⟨ta, tu, tl, st⟩ := sx
    have e1 := ck_neighbours hm hw st
    have e2 := ck_woken E hm hw st
    obtain ⟨h3, e3, sx3⟩ := w_told4 hm st
    have fin : ∀ i, i = sIn C (M d).1 m (nI w) → (i = 0 ∨ i = 1) → ∀ h, zSx r C d M K W Tx Ga Va n h → zOK (zev r i_L_law 295 [some (.ref b), some (.ref (r.1 + 0)), some (.ref (r.1 + 49)), some (.ref (r.1 + 50)), some (.int (nI C.2.1)), some (.long bg), none, some (.int (nI tn)), some (.int (x)), some (.int (hg)), some (.int (nI d)), some (.long (dg)), none, some (.int (nI w)), some (.int (zfd (fun a m => a + sWo C (M d).1 (M d).2.1 m (nI w) (-9)) 0 m 0)), some (.int ((zfd (yWst C (M d).1 (M d).2.1 (nI w)) 0 m (-9, -1)).2)), some (.int (zfd (fun (a : Int32) p => if sIn C (M d).1 p (nI w) = 0 then a else a + 1) 0 m 0)), some (.int (nI m)), some (.int (sBe C (M d).1 m (nI w))), some (.int (sWo C (M d).1 (M d).2.1 m (nI w) (-9))), some (.int (i)), none, none, none, none, none, none, none, none] [.int (i), .int (zfd (fun (a : Int32) p => if sIn C (M d).1 p (nI w) = 0 then a else a + 1) 0 m 0)] h) := fun i hi hi2 h sx => by
      refine w_295 E h6 k ok hw hm hi rfl rfl (fun h sx => ?_) sx
      have st := ih (m + 1) h (by omega) sx
      rw [zfd_succ, zfd_succ, zfd_succ, Nat.zero_add] at st
      have f1 : (if sIn C (M d).1 m (nI w) = 0 then zfd (fun (a : Int32) p => if sIn C (M d).1 p (nI w) = 0 then a else a + 1) 0 m 0 else zfd (fun (a : Int32) p => if sIn C (M d).1 p (nI w) = 0 then a else a + 1) 0 m 0 + 1) = zfd (fun (a : Int32) p => if sIn C (M d).1 p (nI w) = 0 then a else a + 1) 0 m 0 + i := by
        rw [← hi]
        rcases hi2 with z | z
        · rw [z, if_pos rfl, Int32.add_zero]
        · rw [z, if_neg i01]
      have f2 : (yWst C (M d).1 (M d).2.1 (nI w) (zfd (yWst C (M d).1 (M d).2.1 (nI w)) 0 m (-9, -1)) m).2 = if i = 0 then (zfd (yWst C (M d).1 (M d).2.1 (nI w)) 0 m (-9, -1)).2 else if (zfd (yWst C (M d).1 (M d).2.1 (nI w)) 0 m (-9, -1)).2 < sWo C (M d).1 (M d).2.1 m (nI w) (-9) then sWo C (M d).1 (M d).2.1 m (nI w) (-9) else (zfd (yWst C (M d).1 (M d).2.1 (nI w)) 0 m (-9, -1)).2 := by
        generalize zfd (yWst C (M d).1 (M d).2.1 (nI w)) 0 m (-9, -1) = T
        unfold yWst
        rw [← hi]
        split
        · rfl
        · split <;> rfl
      rw [f1, f2] at st
      exact st
    rw [E_L_law_220, if_pos (nI_lt hm (by omega)), if_pos (st_ob st), e1, zcI_some, if_pos (st_ob st), e2, zcI_some, e3, zcI_some]
    rcases ok.1.1 m hm with z | ⟨a, ha, ea⟩
    · have is0 : sIn C (M d).1 m (nI w) = 0 := by unfold sIn; rw [if_pos z]
      rw [z, if_pos (show (-9 : Int32) < 0 by decide), if_pos rfl]
      exact fin 0 is0.symm (.inl rfl) h3 sx3
    · have n9 : ¬ (M d).1 m = -9 := by rw [ea]; exact nI_n9 (by omega)
      rw [ea, if_neg (nI_pos (by omega))]
      by_cases w0 : nI w = 0
      · have is1 : sIn C (M d).1 m (nI w) = 1 := by unfold sIn; rw [if_neg n9, if_pos w0]
        rw [if_pos w0, if_neg i01]
        exact fin 1 is1.symm (.inr rfl) h3 sx3
      · rw [if_neg w0]
        obtain ⟨ta, tu, tl, st3⟩ := sx3
        obtain ⟨h4, e4, sx4⟩ := w_told2 hm st3
        rw [e4, zcI_some]
        by_cases u : C.2.2.2.2.1 m = nI w - 1
        · have is0 : sIn C (M d).1 m (nI w) = 0 := by unfold sIn; rw [if_neg n9, if_neg w0, if_pos u]
          rw [if_pos u, if_pos rfl]
          exact fin 0 is0.symm (.inl rfl) h4 sx4
        · have is1 : sIn C (M d).1 m (nI w) = 1 := by unfold sIn; rw [if_neg n9, if_neg w0, if_neg u]
          rw [if_neg u, if_neg i01]
          exact fin 1 is1.symm (.inr rfl) h4 sx4
end WM
