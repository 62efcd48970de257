/-! THE LAW'S WALK: all pairs, and a night -/
section WP
variable {r : zE} {C : zCs} {d : Nat} {M : Nat → zDk} {K : Nat → Option (Nat × (Nat → zDk))} {W Tx : Nat → Option (List Int32)} {Ga Va : zA} {n : Nat} {h : zH} {b tn : Nat} {bg dg : Int64} {x hg mo ar y1 y2 cl P : Int32} {m q w : Nat}
/-- what a pair's row tells -/
def yCl (P : Int32) : Int32 := if P = -9 then 1 else 0
theorem w_1126 (k2 : C.2.1 ≤ 6) (hmq : m < q) (hq : q < C.2.1) {A g one two ma bo be : Int32} (hP : P = zfd (yCo C (M d).1 (M d).2.1 (nI w)) 0 C.2.1 (-9)) (hbe : be = yGl C (M d).1 (M d).2.1 m q (nI w))
    (kk : ∀ h, zSx r C d M K W Tx Ga Va n h → zOK (zev r i_L_law 877 [some (.ref b), some (.ref (r.1 + 0)), some (.ref (r.1 + 49)), some (.ref (r.1 + 50)), some (.int (nI C.2.1)), some (.long bg), none, some (.int (nI tn)), some (.int (x)), some (.int (hg)), some (.int (nI d)), some (.long (dg)), none, some (.int (nI w)), some (.int (A)), some (.int (mo)), some (.int (ar)), some (.int (y1)), some (.int (y2)), some (.int (yCl P)), some (.int (P)), some (.int (nI m)), some (.int (nI (q + 1))), none, none, none, none, none, none] [] h)) (sx : zSx r C d M K W Tx Ga Va n h) : zOK (zev r i_L_law 1126 [some (.ref b), some (.ref (r.1 + 0)), some (.ref (r.1 + 49)), some (.ref (r.1 + 50)), some (.int (nI C.2.1)), some (.long bg), none, some (.int (nI tn)), some (.int (x)), some (.int (hg)), some (.int (nI d)), some (.long (dg)), none, some (.int (nI w)), some (.int (A)), some (.int (mo)), some (.int (ar)), some (.int (y1)), some (.int (y2)), some (.int (yCl P)), some (.int (P)), some (.int (nI m)), some (.int (nI q)), some (.int (g)), some (.int (one)), some (.int (two)), some (.int (ma)), some (.int (bo)), some (.int (be))] [] h) := by
  have e6 : (6 : Int32) * nI m + nI q = nI (6 * m + q) := by rw [show (6 : Int32) = nI 6 from rfl, pk_mul, nI_add]
  have po := pair_ok (C := C) (H := (M d).1) (L := (M d).2.1) (nI w) k2
  rw [← hP] at po
  have l2 : zOK (zev r i_L_law 1150 [some (.ref b), some (.ref (r.1 + 0)), some (.ref (r.1 + 49)), some (.ref (r.1 + 50)), some (.int (nI C.2.1)), some (.long bg), none, some (.int (nI tn)), some (.int (x)), some (.int (hg)), some (.int (nI d)), some (.long (dg)), none, some (.int (nI w)), some (.int (A)), some (.int (mo)), some (.int (ar)), some (.int (y1)), some (.int (y2)), some (.int (yCl P)), some (.int (P)), some (.int (nI m)), some (.int (nI q)), some (.int (g)), some (.int (one)), some (.int (two)), some (.int (ma)), some (.int (bo)), some (.int (be))] [] h) := by
    rw [E_L_law_1150, e6, nI_1]
    by_cases c : P = nI (6 * m + q)
    · rw [if_pos c]
      have bn : ¬ be = 0 := by
        rw [hbe]
        rcases po with ⟨e, -⟩ | ⟨m', q', h1, h2, h3, h4, -⟩
        · exact absurd (c.symm.trans e) (nI_n9 (by omega))
        · have : 6 * m' + q' = 6 * m + q := (nI_eq (by omega) (by omega)).mp (h4.symm.trans c)
          have em : m' = m := by omega
          have eq : q' = q := by omega
          rw [← em, ← eq]
          exact h3
      rw [if_neg bn]
      exact kk h sx
    · rw [if_neg c]
      exact kk h sx
  rw [E_L_law_1126, e6]
  by_cases c : be = 0
  · rw [if_pos c]; exact l2
  · rw [if_neg c]
    rcases po with ⟨-, e⟩ | ⟨m', q', h1, h2, h3, h4, h5⟩
    · exact absurd (hbe.trans (e m q hmq hq)) c
    · have n1 : ¬ yCl P = 1 := by
        unfold yCl
        rw [if_neg (by rw [h4]; exact nI_n9 (by omega))]
        decide
      have le := h5 m q hmq hq (by rw [← hbe]; exact c)
      have n2 : ¬ nI (6 * m + q) < P := by rw [h4]; exact nI_nlt le (by omega)
      rw [if_neg n1, if_neg n2]
      exact l2
theorem w_1032 (E : zEk r) (h6 : d < 60) (hw : w < 3) (hmq : m < q) (hq : q < C.2.1) {A one two ma bo : Int32} (hA : A = sAll C (M d).1 (M d).2.1 (nI w)) (h1 : one = sWo C (M d).1 (M d).2.1 m (nI w) (-9)) (h2 : two = sWo C (M d).1 (M d).2.1 q (nI w) (-9)) (hP : P = zfd (yCo C (M d).1 (M d).2.1 (nI w)) 0 C.2.1 (-9))
    (hma : (ma = 0 ∧ (M d).1 m = -9 ∧ (M d).1 q = -9) ∨ (ma = 1 ∧ ¬ ((M d).1 m = -9 ∧ (M d).1 q = -9))) (hbo : (bo = 0 ∧ (sIn C (M d).1 m (nI w) = 0 ∨ sIn C (M d).1 q (nI w) = 0)) ∨ (bo = 1 ∧ ¬ sIn C (M d).1 m (nI w) = 0 ∧ ¬ sIn C (M d).1 q (nI w) = 0))
    (kk : ∀ h, zSx r C d M K W Tx Ga Va n h → zOK (zev r i_L_law 877 [some (.ref b), some (.ref (r.1 + 0)), some (.ref (r.1 + 49)), some (.ref (r.1 + 50)), some (.int (nI C.2.1)), some (.long bg), none, some (.int (nI tn)), some (.int (x)), some (.int (hg)), some (.int (nI d)), some (.long (dg)), none, some (.int (nI w)), some (.int (A)), some (.int (mo)), some (.int (ar)), some (.int (y1)), some (.int (y2)), some (.int (yCl P)), some (.int (P)), some (.int (nI m)), some (.int (nI (q + 1))), none, none, none, none, none, none] [] h)) (sx : zSx r C d M K W Tx Ga Va n h) : zOK (zev r i_L_law 1032 [some (.ref b), some (.ref (r.1 + 0)), some (.ref (r.1 + 49)), some (.ref (r.1 + 50)), some (.int (nI C.2.1)), some (.long bg), none, some (.int (nI tn)), some (.int (x)), some (.int (hg)), some (.int (nI d)), some (.long (dg)), none, some (.int (nI w)), some (.int (A)), some (.int (mo)), some (.int (ar)), some (.int (y1)), some (.int (y2)), some (.int (yCl P)), some (.int (P)), some (.int (nI m)), some (.int (nI q)), some (.int (100 + A - sAll C (ySw (M d).1 m q) (M d).2.1 (nI w))), some (.int (one)), some (.int (two)), some (.int (ma)), some (.int (bo)), none] [] h) := by
  obtain ⟨ta, tu, tl, st⟩ := sx
  have k := st_k st
  have k2 := k.2.1
  have hm : m < C.2.1 := by omega
  have g0 : (sIn C (M d).1 m (nI w) = 0 ∨ sIn C (M d).1 q (nI w) = 0) → yGl C (M d).1 (M d).2.1 m q (nI w) = 0 := fun z => by
    unfold yGl
    rcases z with z | z
    · rw [if_pos z]
    · rw [if_pos z, ite_self]
  rcases hma with ⟨m0, z1, z2⟩ | ⟨m1, z⟩
  · have be0 := g0 (.inl (show sIn C (M d).1 m (nI w) = 0 by unfold sIn; rw [if_pos z1]))
    rw [E_L_law_1032, if_pos m0, E_L_law_1068, if_pos m0, if_pos m0]
    exact w_1126 k2 hmq hq hP be0.symm kk (sx_of st)
  · have mn : ¬ ma = 0 := by rw [m1]; decide
    obtain ⟨h', e1, st1⟩ := ck_change hm hq (by omega) z h6 st
    obtain ⟨h2', e2, st2⟩ := ck_all E hw st1
    rw [va_same] at e2 st2
    dsimp only at e2
    have ring : sAll C (ySw (M d).1 m q) (M d).2.1 (nI w) = A + 100 - (100 + A - sAll C (ySw (M d).1 m q) (M d).2.1 (nI w)) := by
      rw [Int32.add_comm A 100, sub_sub_self32]
    have un : ∀ {h} {ta tu tl}, zSt r C (d + 1) (va_up M (d + 1) (ySw (M d).1 m q, (M d).2.1, (M d).2.2)) K W Tx ta tu tl Ga Va n h → ∃ h', zev r i_X5_undo 0 [some (.ref (r.1 + 0)), some (.int (nI d)), none] [] h = some (some (.int 1), h') ∧ zSx r C d M K W Tx Ga Va n h' := fun {h} {ta tu tl} st => by
      obtain ⟨h', e, s⟩ := ck_undo (e := d) (M' := M) (by omega) va_old st
      rw [show d + 1 - d = 1 by omega] at e
      exact ⟨h', e, sx_of s⟩
    rw [E_L_law_1032, if_neg mn, if_pos (st_ob st), e1, zcI_some, if_pos rfl, if_pos (st_ob st1), e2, zcI_some, if_pos ring, E_L_law_1068, if_neg mn]
    rcases hbo with ⟨b0, zb⟩ | ⟨b1, zm, zq⟩
    · obtain ⟨h3', e3, sx3⟩ := un st2
      rw [if_pos b0, if_neg mn, if_pos (st_ob st2), e3, zcI_some, if_pos rfl]
      exact w_1126 k2 hmq hq hP (g0 zb).symm kk sx3
    · have e4 := ck_woken E hm hw st2
      rw [va_same] at e4
      dsimp only at e4
      rw [if_neg (show ¬ bo = 0 by rw [b1]; decide), if_pos (st_ob st2), e4, zcI_some]
      have gl : yGl C (M d).1 (M d).2.1 m q (nI w) = if sWo C (ySw (M d).1 m q) (M d).2.1 m (nI w) (-9) < one then if sWo C (ySw (M d).1 m q) (M d).2.1 q (nI w) (-9) < two then 1 else 0 else 0 := by
        unfold yGl
        rw [if_neg zm, if_neg zq, h1, h2]
      by_cases c1 : sWo C (ySw (M d).1 m q) (M d).2.1 m (nI w) (-9) < one
      · have e5 := ck_woken E hq hw st2
        rw [va_same] at e5
        dsimp only at e5
        rw [if_pos c1, if_pos (st_ob st2), e5, zcI_some]
        rw [if_pos c1] at gl
        by_cases c2 : sWo C (ySw (M d).1 m q) (M d).2.1 q (nI w) (-9) < two
        · rw [if_pos c2] at gl
          obtain ⟨h3', e3, sx3⟩ := un st2
          rw [if_pos c2, if_neg mn, if_pos (st_ob st2), e3, zcI_some, if_pos rfl]
          exact w_1126 k2 hmq hq hP gl.symm kk sx3
        · rw [if_neg c2] at gl
          obtain ⟨h3', e3, sx3⟩ := un st2
          rw [if_neg c2, if_neg mn, if_pos (st_ob st2), e3, zcI_some, if_pos rfl]
          exact w_1126 k2 hmq hq hP gl.symm kk sx3
      · rw [if_neg c1] at gl
        obtain ⟨h3', e3, sx3⟩ := un st2
        rw [if_neg c1, if_neg mn, if_pos (st_ob st2), e3, zcI_some, if_pos rfl]
        exact w_1126 k2 hmq hq hP gl.symm kk sx3
theorem w_1001 (E : zEk r) (h6 : d < 60) (hw : w < 3) (hmq : m < q) (hq : q < C.2.1) {A one two ma bo : Int32} (hA : A = sAll C (M d).1 (M d).2.1 (nI w)) (h1 : one = sWo C (M d).1 (M d).2.1 m (nI w) (-9)) (h2 : two = sWo C (M d).1 (M d).2.1 q (nI w) (-9)) (hP : P = zfd (yCo C (M d).1 (M d).2.1 (nI w)) 0 C.2.1 (-9))
    (hma : (ma = 0 ∧ (M d).1 m = -9 ∧ (M d).1 q = -9) ∨ (ma = 1 ∧ ¬ ((M d).1 m = -9 ∧ (M d).1 q = -9))) (hbo : (bo = 0 ∧ (sIn C (M d).1 m (nI w) = 0 ∨ sIn C (M d).1 q (nI w) = 0)) ∨ (bo = 1 ∧ ¬ sIn C (M d).1 m (nI w) = 0 ∧ ¬ sIn C (M d).1 q (nI w) = 0))
    (kk : ∀ h, zSx r C d M K W Tx Ga Va n h → zOK (zev r i_L_law 877 [some (.ref b), some (.ref (r.1 + 0)), some (.ref (r.1 + 49)), some (.ref (r.1 + 50)), some (.int (nI C.2.1)), some (.long bg), none, some (.int (nI tn)), some (.int (x)), some (.int (hg)), some (.int (nI d)), some (.long (dg)), none, some (.int (nI w)), some (.int (A)), some (.int (mo)), some (.int (ar)), some (.int (y1)), some (.int (y2)), some (.int (yCl P)), some (.int (P)), some (.int (nI m)), some (.int (nI (q + 1))), none, none, none, none, none, none] [] h)) (sx : zSx r C d M K W Tx Ga Va n h) : zOK (zev r i_L_law 1001 [some (.ref b), some (.ref (r.1 + 0)), some (.ref (r.1 + 49)), some (.ref (r.1 + 50)), some (.int (nI C.2.1)), some (.long bg), none, some (.int (nI tn)), some (.int (x)), some (.int (hg)), some (.int (nI d)), some (.long (dg)), none, some (.int (nI w)), some (.int (A)), some (.int (mo)), some (.int (ar)), some (.int (y1)), some (.int (y2)), some (.int (yCl P)), some (.int (P)), some (.int (nI m)), some (.int (nI q)), some (.int (100 + A - sAll C (ySw (M d).1 m q) (M d).2.1 (nI w))), some (.int (one)), some (.int (two)), some (.int (ma)), none, none] [.int (bo)] h) := by
  obtain ⟨ta, tu, tl, st⟩ := sx
  obtain ⟨h', e1, st1⟩ := ck_gain E hq (show m < C.2.1 by omega) (by omega) hw st
  rw [ysw_sym (H := (M d).1) (m := m) (q := q) (by omega), ← hA] at e1
  rw [E_L_law_1001, if_pos (st_ob st), e1, zcI_some, if_pos rfl]
  rcases id hma with ⟨m0, z1, z2⟩ | ⟨m1, z⟩
  · rw [if_pos m0, if_pos (show 100 + A - sAll C (ySw (M d).1 m q) (M d).2.1 (nI w) = 100 by rw [ysw_none z1 z2, ← hA, Int32.add_sub_cancel])]
    exact w_1032 E h6 hw hmq hq hA h1 h2 hP hma hbo kk (sx_of st1)
  · rw [if_neg (show ¬ ma = 0 by rw [m1]; decide)]
    exact w_1032 E h6 hw hmq hq hA h1 h2 hP hma hbo kk (sx_of st1)
theorem w_941 (E : zEk r) (h6 : d < 60) (k1 : C.1 ≤ 7) (v : zVI C (M d).1) (hw : w < 3) (hmq : m < q) (hq : q < C.2.1) {A one two ma : Int32} (hA : A = sAll C (M d).1 (M d).2.1 (nI w)) (h1 : one = sWo C (M d).1 (M d).2.1 m (nI w) (-9)) (h2 : two = sWo C (M d).1 (M d).2.1 q (nI w) (-9)) (hP : P = zfd (yCo C (M d).1 (M d).2.1 (nI w)) 0 C.2.1 (-9))
    (hma : (ma = 0 ∧ (M d).1 m = -9 ∧ (M d).1 q = -9) ∨ (ma = 1 ∧ ¬ ((M d).1 m = -9 ∧ (M d).1 q = -9)))
    (kk : ∀ h, zSx r C d M K W Tx Ga Va n h → zOK (zev r i_L_law 877 [some (.ref b), some (.ref (r.1 + 0)), some (.ref (r.1 + 49)), some (.ref (r.1 + 50)), some (.int (nI C.2.1)), some (.long bg), none, some (.int (nI tn)), some (.int (x)), some (.int (hg)), some (.int (nI d)), some (.long (dg)), none, some (.int (nI w)), some (.int (A)), some (.int (mo)), some (.int (ar)), some (.int (y1)), some (.int (y2)), some (.int (yCl P)), some (.int (P)), some (.int (nI m)), some (.int (nI (q + 1))), none, none, none, none, none, none] [] h)) (sx : zSx r C d M K W Tx Ga Va n h) : zOK (zev r i_L_law 941 [some (.ref b), some (.ref (r.1 + 0)), some (.ref (r.1 + 49)), some (.ref (r.1 + 50)), some (.int (nI C.2.1)), some (.long bg), none, some (.int (nI tn)), some (.int (x)), some (.int (hg)), some (.int (nI d)), some (.long (dg)), none, some (.int (nI w)), some (.int (A)), some (.int (mo)), some (.int (ar)), some (.int (y1)), some (.int (y2)), some (.int (yCl P)), some (.int (P)), some (.int (nI m)), some (.int (nI q)), some (.int (100 + A - sAll C (ySw (M d).1 m q) (M d).2.1 (nI w))), some (.int (one)), some (.int (two)), none, none, none] [.int (ma)] h) := by
  have hm : m < C.2.1 := by omega
  have fin : ∀ bo : Int32, ((bo = 0 ∧ (sIn C (M d).1 m (nI w) = 0 ∨ sIn C (M d).1 q (nI w) = 0)) ∨ (bo = 1 ∧ ¬ sIn C (M d).1 m (nI w) = 0 ∧ ¬ sIn C (M d).1 q (nI w) = 0)) → ∀ h, zSx r C d M K W Tx Ga Va n h → _ := fun bo hbo h sx => w_1001 (b := b) (tn := tn) (bg := bg) (dg := dg) (x := x) (hg := hg) (mo := mo) (ar := ar) (y1 := y1) (y2 := y2) (h := h) E h6 hw hmq hq hA h1 h2 hP hma hbo kk sx
  have out : ∀ {p}, (M d).1 p = -9 → sIn C (M d).1 p (nI w) = 0 := fun {p} z => by unfold sIn; rw [if_pos z]
  have outw : ∀ {p}, ¬ (M d).1 p = -9 → ¬ nI w = 0 → C.2.2.2.2.1 p = nI w - 1 → sIn C (M d).1 p (nI w) = 0 := fun {p} z z1 z2 => by unfold sIn; rw [if_neg z, if_neg z1, if_pos z2]
  have inw : ∀ {p}, ¬ (M d).1 p = -9 → ¬ nI w = 0 → ¬ C.2.2.2.2.1 p = nI w - 1 → ¬ sIn C (M d).1 p (nI w) = 0 := fun {p} z z1 z2 => by unfold sIn; rw [if_neg z, if_neg z1, if_neg z2]; decide
  have in0 : ∀ {p}, ¬ (M d).1 p = -9 → nI w = 0 → ¬ sIn C (M d).1 p (nI w) = 0 := fun {p} z z1 => by unfold sIn; rw [if_neg z, if_pos z1]; decide
  obtain ⟨ta, tu, tl, st⟩ := sx
  obtain ⟨h1', e1, sx1⟩ := w_told4 hm st
  rw [E_L_law_941, e1, zcI_some]
  rcases v.1 m hm with z | ⟨a, ha, ea⟩
  · rw [z, if_pos (by decide)]
    exact fin 0 (.inl ⟨rfl, .inl (out z)⟩) h1' sx1
  · have n9 : ¬ (M d).1 m = -9 := by rw [ea]; exact nI_n9 (by omega)
    rw [ea, if_neg (nI_pos (by omega))]
    obtain ⟨ta, tu, tl, st1⟩ := sx1
    obtain ⟨h2', e2, sx2⟩ := w_told4 hq st1
    rw [e2, zcI_some]
    rcases v.1 q hq with z | ⟨a', ha', ea'⟩
    · rw [z, if_pos (by decide)]
      exact fin 0 (.inl ⟨rfl, .inr (out z)⟩) h2' sx2
    · have n9' : ¬ (M d).1 q = -9 := by rw [ea']; exact nI_n9 (by omega)
      rw [ea', if_neg (nI_pos (by omega))]
      by_cases w0 : nI w = 0
      · rw [if_pos w0]
        exact fin 1 (.inr ⟨rfl, in0 n9 w0, in0 n9' w0⟩) h2' sx2
      · rw [if_neg w0]
        obtain ⟨ta, tu, tl, st2⟩ := sx2
        obtain ⟨h3', e3, sx3⟩ := w_told2 hm st2
        rw [e3, zcI_some]
        by_cases u : C.2.2.2.2.1 m = nI w - 1
        · rw [if_pos u]
          exact fin 0 (.inl ⟨rfl, .inl (outw n9 w0 u)⟩) h3' sx3
        · rw [if_neg u]
          obtain ⟨ta, tu, tl, st3⟩ := sx3
          obtain ⟨h4', e4, sx4⟩ := w_told2 hq st3
          rw [e4, zcI_some]
          by_cases u2 : C.2.2.2.2.1 q = nI w - 1
          · rw [if_pos u2]
            exact fin 0 (.inl ⟨rfl, .inr (outw n9' w0 u2)⟩) h4' sx4
          · rw [if_neg u2]
            exact fin 1 (.inr ⟨rfl, inw n9 w0 u, inw n9' w0 u2⟩) h4' sx4
theorem w_877 (E : zEk r) (h6 : d < 60) (k : zCk C) (v : zVI C (M d).1) (hw : w < 3) {A : Int32} (hA : A = sAll C (M d).1 (M d).2.1 (nI w)) (hP : P = zfd (yCo C (M d).1 (M d).2.1 (nI w)) 0 C.2.1 (-9)) (hm : m < C.2.1)
    (kk : ∀ h, zSx r C d M K W Tx Ga Va n h → zOK (zev r i_L_law 864 [some (.ref b), some (.ref (r.1 + 0)), some (.ref (r.1 + 49)), some (.ref (r.1 + 50)), some (.int (nI C.2.1)), some (.long bg), none, some (.int (nI tn)), some (.int (x)), some (.int (hg)), some (.int (nI d)), some (.long (dg)), none, some (.int (nI w)), some (.int (A)), some (.int (mo)), some (.int (ar)), some (.int (y1)), some (.int (y2)), some (.int (yCl P)), some (.int (P)), some (.int (nI (m + 1))), none, none, none, none, none, none, none] [] h)) : ∀ s q h, q + s = C.2.1 → m < q → zSx r C d M K W Tx Ga Va n h → zOK (zev r i_L_law 877 [some (.ref b), some (.ref (r.1 + 0)), some (.ref (r.1 + 49)), some (.ref (r.1 + 50)), some (.int (nI C.2.1)), some (.long bg), none, some (.int (nI tn)), some (.int (x)), some (.int (hg)), some (.int (nI d)), some (.long (dg)), none, some (.int (nI w)), some (.int (A)), some (.int (mo)), some (.int (ar)), some (.int (y1)), some (.int (y2)), some (.int (yCl P)), some (.int (P)), some (.int (nI m)), some (.int (nI q)), none, none, none, none, none, none] [] h) := by
  have k1 := k.1
  have k2 := k.2.1
  intro s
  induction s with
  | zero =>
    intro q h e hmq sx
    rw [E_L_law_877, if_neg (nI_nlt (by omega) (by omega)), nI_1]
    exact kk h sx
  | succ s ih =>
    intro q h e hmq sx
    have hq : q < C.2.1 := by omega
    obtain ⟨ta, tu, tl, st⟩ := sx
    obtain ⟨h1, e1, st1⟩ := ck_gain E hm hq (by omega) hw st
    rw [← hA] at e1
    have e2 := ck_woken E hm hw st1
    have e3 := ck_woken E hq hw st1
    obtain ⟨h4, e4, sx4⟩ := w_told4 hm st1
    rw [E_L_law_877, if_pos (nI_lt hq (by omega)), if_pos (st_ob st), e1, zcI_some, if_pos (st_ob st1), e2, zcI_some, if_pos (st_ob st1), e3, zcI_some, e4, zcI_some]
    have nx := fun h sx => ih (q + 1) h (by omega) (by omega) sx
    rcases v.1 m hm with z | ⟨a, ha, ea⟩
    · rw [z, if_pos (by decide)]
      obtain ⟨ta, tu, tl, st4⟩ := sx4
      obtain ⟨h5, e5, sx5⟩ := w_told4 hq st4
      rw [e5, zcI_some]
      rcases v.1 q hq with z' | ⟨a', ha', ea'⟩
      · rw [z', if_pos (by decide)]
        exact w_941 E h6 k1 v hw hmq hq hA rfl rfl hP (.inl ⟨rfl, z, z'⟩) nx sx5
      · rw [ea', if_neg (nI_pos (by omega))]
        exact w_941 E h6 k1 v hw hmq hq hA rfl rfl hP (.inr ⟨rfl, fun y => nI_n9 (show a' < 2 ^ 31 by omega) (ea'.symm.trans y.2)⟩) nx sx5
    · rw [ea, if_neg (nI_pos (by omega))]
      exact w_941 E h6 k1 v hw hmq hq hA rfl rfl hP (.inr ⟨rfl, fun y => nI_n9 (show a < 2 ^ 31 by omega) (ea.symm.trans y.1)⟩) nx sx4
theorem w_864 (E : zEk r) (h6 : d < 60) (k : zCk C) (v : zVI C (M d).1) (m0 : 0 < C.2.1) (hw : w < 3) {A : Int32} (hA : A = sAll C (M d).1 (M d).2.1 (nI w)) (hP : P = zfd (yCo C (M d).1 (M d).2.1 (nI w)) 0 C.2.1 (-9)) (hd : dg = vDg C d (M d) K W Tx)
    (kk : ∀ h, zSx r C d M K W Tx Ga Va n h → zOK (zev r i_L_law 202 [some (.ref b), some (.ref (r.1 + 0)), some (.ref (r.1 + 49)), some (.ref (r.1 + 50)), some (.int (nI C.2.1)), some (.long bg), none, some (.int (nI tn)), some (.int (x)), some (.int (hg)), some (.int (nI d)), some (.long (dg)), none, some (.int (nI (w + 1))), none, none, none, none, none, none, none, none, none, none, none, none, none, none, none] [] h)) : ∀ s m h, m + s = C.2.1 → zSx r C d M K W Tx Ga Va n h → zOK (zev r i_L_law 864 [some (.ref b), some (.ref (r.1 + 0)), some (.ref (r.1 + 49)), some (.ref (r.1 + 50)), some (.int (nI C.2.1)), some (.long bg), none, some (.int (nI tn)), some (.int (x)), some (.int (hg)), some (.int (nI d)), some (.long (dg)), none, some (.int (nI w)), some (.int (A)), some (.int (mo)), some (.int (ar)), some (.int (y1)), some (.int (y2)), some (.int (yCl P)), some (.int (P)), some (.int (nI m)), none, none, none, none, none, none, none] [] h) := by
  have k1 := k.1
  have k2 := k.2.1
  intro s
  induction s with
  | zero =>
    intro m h e sx
    obtain ⟨ta, tu, tl, st⟩ := sx
    have ok := st_ok st
    have e1 := ck_count (w := 4) (by decide) st
    rw [nl4, show yCv C d (M d) K W Tx 4 = sTired C (M d).2.2 from rfl] at e1
    obtain ⟨h2, e2, st2⟩ := ck_night E hw m0 h6 st
    have e3 := ck_count (w := 4) (by decide) st2
    rw [va_same, nl4, show yCv C (d + 1) (yNd C (M d) (nI w)) K W Tx 4 = sTired C (yNd C (M d) (nI w)).2.2 from rfl, night_tired] at e3
    obtain ⟨h4, e4, st4⟩ := ck_undo (e := d) (M' := M) (by omega) va_old st2
    rw [show d + 1 - d = 1 by omega, nl1] at e4
    have e5 := ck_digest st4
    obtain ⟨a, c, hac, hc, ea, ec⟩ := night_ok k ok (nI w)
    have n1 : ¬ yNv C (M d) (nI w) < 0 := by rw [ea]; exact nI_pos (by omega)
    have n2 : ¬ A < yNv C (M d) (nI w) := by rw [hA, ea, ec]; exact nI_nlt hac (by omega)
    rw [E_L_law_864, if_neg (nI_nlt (by omega) (by omega)), if_pos (st_ob st), e1, zcI_some, if_pos (st_ob st), e2, zcI_some, if_neg n1, if_neg n2, if_pos (st_ob st2), e3, zcI_some, if_pos rfl, if_pos (st_ob st2), e4, zcI_some, if_pos rfl, if_pos (st_ob st4), e5, zcL_some, if_pos (by rw [hd]; unfold lg_cmp; simp), nI_1]
    exact kk h4 (sx_of st4)
  | succ s ih =>
    intro m h e sx
    have hm : m < C.2.1 := by omega
    rw [E_L_law_864, if_pos (nI_lt hm (by omega)), nI_1]
    exact w_877 E h6 k v hw hA hP hm (fun h sx => ih (m + 1) h (by omega) sx) (C.2.1 - (m + 1)) (m + 1) h (by omega) (by omega) sx
end WP
