/-! THE LAW'S WALK: one man's neighbours -/
section WK
variable {r : zE} {C : zCs} {d : Nat} {M : Nat → zDk} {K : Nat → Option (Nat × (Nat → zDk))} {W Tx : Nat → Option (List Int32)} {Ga Va : zA} {n : Nat} {h : zH} {b tn : Nat} {bg dg : Int64} {x hg sm mo ar S wo i0 : Int32} {m w : Nat}
/-- one row of the neighbours' loop -/
theorem w_435 (k : zCk C) (hw : w < 3) (hm : m < C.2.1) (hi : ¬ sIn C (M d).1 m (nI w) = 0) (hS : S = sBe C (M d).1 m (nI w)) {j : Nat} (hj : j < C.2.1) {is : Int32} (his : is = sIn C (M d).1 j (nI w))
    (kk : ∀ h, zSx r C d M K W Tx Ga Va n h → zOK (zev r i_L_law 371 [some (.ref b), some (.ref (r.1 + 0)), some (.ref (r.1 + 49)), some (.ref (r.1 + 50)), some (.int (nI C.2.1)), some (.long bg), none, some (.int (nI tn)), some (.int (x)), some (.int (hg)), some (.int (nI d)), some (.long (dg)), none, some (.int (nI w)), some (.int (sm)), some (.int (mo)), some (.int (ar)), some (.int (nI m)), some (.int (S)), some (.int (wo)), some (.int (i0)), some (.int (nI (j + 1))), none, none, none, none, none, none, none] [] h)) (sx : zSx r C d M K W Tx Ga Va n h) : zOK (zev r i_L_law 435 [some (.ref b), some (.ref (r.1 + 0)), some (.ref (r.1 + 49)), some (.ref (r.1 + 50)), some (.int (nI C.2.1)), some (.long bg), none, some (.int (nI tn)), some (.int (x)), some (.int (hg)), some (.int (nI d)), some (.long (dg)), none, some (.int (nI w)), some (.int (sm)), some (.int (mo)), some (.int (ar)), some (.int (nI m)), some (.int (S)), some (.int (wo)), some (.int (i0)), some (.int (nI j)), some (.int (is)), none, none, none, none, none, none] [] h) := by
  obtain ⟨ta, tu, tl, st⟩ := sx
  rw [E_L_law_435]
  by_cases c : is = 0
  · rw [if_pos c, nI_1]
    exact kk h (sx_of st)
  · rw [if_neg c, if_pos (st_ob st), ck_neighbours hj hw st, zcI_some, hS, be_bit k hj, be_bit k hm]
    have e := bes_sy (a := j) (b := m) (by rw [← his]; exact c) hi
    by_cases z : sBes C (M d).1 j m (nI w) = 0
    · rw [if_pos z, if_pos (e.mp z), if_pos rfl, nI_1, ← hS]
      exact kk h (sx_of st)
    · rw [if_neg z, if_neg (fun q => z (e.mpr q)), if_pos rfl, nI_1, ← hS]
      exact kk h (sx_of st)
theorem w_371 (k : zCk C) (v : zVI C (M d).1) (hw : w < 3) (hm : m < C.2.1) (hi : i0 = sIn C (M d).1 m (nI w)) (hS : S = sBe C (M d).1 m (nI w))
    (kk : ∀ h j, zSx r C d M K W Tx Ga Va n h → zOK (zev r i_L_law 471 [some (.ref b), some (.ref (r.1 + 0)), some (.ref (r.1 + 49)), some (.ref (r.1 + 50)), some (.int (nI C.2.1)), some (.long bg), none, some (.int (nI tn)), some (.int (x)), some (.int (hg)), some (.int (nI d)), some (.long (dg)), none, some (.int (nI w)), some (.int (sm)), some (.int (mo)), some (.int (ar)), some (.int (nI m)), some (.int (S)), some (.int (wo)), some (.int (i0)), some (.int (j)), none, none, none, none, none, none, none] [] h)) : ∀ q j h, j + q = C.2.1 → zSx r C d M K W Tx Ga Va n h → zOK (zev r i_L_law 371 [some (.ref b), some (.ref (r.1 + 0)), some (.ref (r.1 + 49)), some (.ref (r.1 + 50)), some (.int (nI C.2.1)), some (.long bg), none, some (.int (nI tn)), some (.int (x)), some (.int (hg)), some (.int (nI d)), some (.long (dg)), none, some (.int (nI w)), some (.int (sm)), some (.int (mo)), some (.int (ar)), some (.int (nI m)), some (.int (S)), some (.int (wo)), some (.int (i0)), some (.int (nI j)), none, none, none, none, none, none, none] [] h) := by
  have k2 := k.2.1
  intro q
  induction q with
  | zero =>
    intro j h e sx
    rw [E_L_law_371, if_neg (nI_nlt (by omega) (by omega))]
    exact kk h _ sx
  | succ q ih =>
    intro j h e sx
    have hj : j < C.2.1 := by omega
    rw [E_L_law_371, if_pos (nI_lt hj (by omega))]
    by_cases c : i0 = 0
    · rw [if_pos c]
      exact kk h _ sx
    · rw [if_neg c]
      have hin : ¬ sIn C (M d).1 m (nI w) = 0 := by rw [← hi]; exact c
      obtain ⟨ta, tu, tl, st⟩ := sx
      obtain ⟨h1, e1, sx1⟩ := w_told4 hj st
      rw [e1, zcI_some]
      have fin : ∀ is, is = sIn C (M d).1 j (nI w) → ∀ h, zSx r C d M K W Tx Ga Va n h → zOK (zev r i_L_law 435 [some (.ref b), some (.ref (r.1 + 0)), some (.ref (r.1 + 49)), some (.ref (r.1 + 50)), some (.int (nI C.2.1)), some (.long bg), none, some (.int (nI tn)), some (.int (x)), some (.int (hg)), some (.int (nI d)), some (.long (dg)), none, some (.int (nI w)), some (.int (sm)), some (.int (mo)), some (.int (ar)), some (.int (nI m)), some (.int (S)), some (.int (wo)), some (.int (i0)), some (.int (nI j)), some (.int (is)), none, none, none, none, none, none] [] h) := fun is his h sx => w_435 k hw hm hin hS hj his (fun h sx => ih (j + 1) h (by omega) sx) sx
      have bit : (S >>> (nI j &&& 31)) &&& 1 = if sBes C (M d).1 j m (nI w) = 0 then 0 else 1 := by rw [hS, be_bit k hj]
      have bz : sIn C (M d).1 j (nI w) = 0 → ¬ (S >>> (nI j &&& 31)) &&& 1 = 1 := fun z => by
        rw [bit]
        by_cases y : sBes C (M d).1 j m (nI w) = 0
        · rw [if_pos y]; decide
        · exact absurd z (bes_ne y).1
      rcases v.1 j hj with z | ⟨a, ha, ea⟩
      · have is0 : sIn C (M d).1 j (nI w) = 0 := by unfold sIn; rw [if_pos z]
        rw [z, if_pos (show (-9 : Int32) < 0 by decide), if_neg (bz is0)]
        exact fin 0 is0.symm h1 sx1
      · have k1 := k.1
        have n9 : ¬ (M d).1 j = -9 := by rw [ea]; exact nI_n9 (by omega)
        rw [ea, if_neg (nI_pos (by omega))]
        by_cases w0 : nI w = 0
        · have is1 : sIn C (M d).1 j (nI w) = 1 := by unfold sIn; rw [if_neg n9, if_pos w0]
          rw [if_pos w0]
          by_cases y : (S >>> (nI j &&& 31)) &&& 1 = 1
          · rw [if_pos y, if_neg i01]; exact fin 1 is1.symm h1 sx1
          · rw [if_neg y]; exact fin 1 is1.symm h1 sx1
        · rw [if_neg w0]
          obtain ⟨ta, tu, tl, st1⟩ := sx1
          obtain ⟨h2, e2, sx2⟩ := w_told2 hj st1
          rw [e2, zcI_some]
          by_cases u : C.2.2.2.2.1 j = nI w - 1
          · have is0 : sIn C (M d).1 j (nI w) = 0 := by unfold sIn; rw [if_neg n9, if_neg w0, if_pos u]
            rw [if_pos u, if_neg (bz is0)]
            exact fin 0 is0.symm h2 sx2
          · have is1 : sIn C (M d).1 j (nI w) = 1 := by unfold sIn; rw [if_neg n9, if_neg w0, if_neg u]
            rw [if_neg u]
            by_cases y : (S >>> (nI j &&& 31)) &&& 1 = 1
            · rw [if_pos y, if_neg i01]; exact fin 1 is1.symm h2 sx2
            · rw [if_neg y]; exact fin 1 is1.symm h2 sx2
theorem w_341 (k : zCk C) (v : zVI C (M d).1) (hw : w < 3) (hm : m < C.2.1) (hi : i0 = sIn C (M d).1 m (nI w)) (hS : S = sBe C (M d).1 m (nI w))
    (kk : ∀ h j, zSx r C d M K W Tx Ga Va n h → zOK (zev r i_L_law 471 [some (.ref b), some (.ref (r.1 + 0)), some (.ref (r.1 + 49)), some (.ref (r.1 + 50)), some (.int (nI C.2.1)), some (.long bg), none, some (.int (nI tn)), some (.int (x)), some (.int (hg)), some (.int (nI d)), some (.long (dg)), none, some (.int (nI w)), some (.int (sm)), some (.int (mo)), some (.int (ar)), some (.int (nI m)), some (.int (S)), some (.int (wo)), some (.int (i0)), some (.int (j)), none, none, none, none, none, none, none] [] h)) (sx : zSx r C d M K W Tx Ga Va n h) : zOK (zev r i_L_law 341 [some (.ref b), some (.ref (r.1 + 0)), some (.ref (r.1 + 49)), some (.ref (r.1 + 50)), some (.int (nI C.2.1)), some (.long bg), none, some (.int (nI tn)), some (.int (x)), some (.int (hg)), some (.int (nI d)), some (.long (dg)), none, some (.int (nI w)), some (.int (sm)), some (.int (mo)), some (.int (ar)), some (.int (nI m)), some (.int (S)), some (.int (wo)), some (.int (i0)), none, none, none, none, none, none, none, none] [] h) := by
  have n1 : ¬ S < 0 := by rw [hS]; exact be_pos k m (nI w)
  have n2 : ¬ (2 : Int32) < yB7 S := by rw [hS]; exact be_two k v m (nI w)
  have n3 : ¬ (S >>> (nI m &&& 31)) &&& 1 = 1 := by rw [hS, be_bit k hm, if_pos sBes_self]; decide
  rw [E_L_law_341, if_neg n1, w_bits, zcI_some, if_neg n2, if_neg n3]
  exact w_371 k v hw hm hi hS kk C.2.1 0 h (by omega) sx
end WK
