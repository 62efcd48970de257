/-! THE LAW'S WALK: getting up, plans -/
section WU
variable {r : zE} {C : zCs} {d : Nat} {M : Nat → zDk} {K : Nat → Option (Nat × (Nat → zDk))} {W Tx : Nat → Option (List Int32)} {Ga Va : zA} {n : Nat} {h : zH} {b tn : Nat} {bg dg : Int64} {x : Int32} {w : Nat} {p : List Nat}
theorem w_1558 (k : zCk C) (v : zVI C (M d).1) (hw : w < 3) (hW4 : W 4 = some ((yUp C (M d).1 (nI w)).map nI)) {hg l14 l15 l16 l17 l18 l19 l20 : Int32}
    (kk : ∀ h l23 l24 l25, zSx r C d M K W Tx Ga Va n h → zOK (zev r i_L_law 1685 [some (.ref b), some (.ref (r.1 + 0)), some (.ref (r.1 + 49)), some (.ref (r.1 + 50)), some (.int (nI C.2.1)), some (.long bg), none, some (.int (nI tn)), some (.int (x)), some (.int (hg)), some (.int (nI d)), some (.long (dg)), none, some (.int (nI w)), some (.int (l14)), some (.int (l15)), some (.int (l16)), some (.int (l17)), some (.int (l18)), some (.int (l19)), some (.int (l20)), some (.int (nI (yCs (yAdj C (M d).1 (nI w)) (yHt C) (yUp C (M d).1 (nI w))))), some (.int (nI (yUp C (M d).1 (nI w)).length)), some (.int (l23)), some (.int (l24)), some (.int (l25)), none, none, none] [] h)) :
    ∀ s i h l24, i + s = (yUp C (M d).1 (nI w)).length → zSx r C d M K W Tx Ga Va n h → zOK (zev r i_L_law 1558 [some (.ref b), some (.ref (r.1 + 0)), some (.ref (r.1 + 49)), some (.ref (r.1 + 50)), some (.int (nI C.2.1)), some (.long bg), none, some (.int (nI tn)), some (.int (x)), some (.int (hg)), some (.int (nI d)), some (.long (dg)), none, some (.int (nI w)), some (.int (l14)), some (.int (l15)), some (.int (l16)), some (.int (l17)), some (.int (l18)), some (.int (l19)), some (.int (l20)), some (.int (nI (yCs (yAdj C (M d).1 (nI w)) (yHt C) (yUp C (M d).1 (nI w))))), some (.int (nI (yUp C (M d).1 (nI w)).length)), some (.int (ySt (yUb C (M d).1 (nI w) i) C.2.1)), some (.int (l24)), some (.int (nI i)), none, none, none] [] h) := by
  have k1 := k.1
  have k2 := k.2.1
  have n6 := sm_len k (M d).1 (nI w)
  have ul := up_len C (M d).1 (nI w)
  have c1000 := cs_1000 (C := C) (H := (M d).1) k (nI w) (o := yUp C (M d).1 (nI w)) (by omega)
  intro s
  induction s with
  | zero =>
    intro i h l24 e sx
    obtain ⟨ta, tu, tl, st⟩ := sx
    obtain ⟨h1, e1, st1⟩ := ck_at_no (j := 4) (i := (yUp C (M d).1 (nI w)).length) (by decide) hW4 (by rw [List.length_map]; exact Nat.le_refl _) (by omega) st
    rw [nl4] at e1
    rw [E_L_law_1558, if_neg (nI_nlt (by omega) (by omega)), if_neg (nI_pos (by omega)), if_pos (st_ob st), e1, zcI_some, if_pos rfl]
    by_cases c : nI (yUp C (M d).1 (nI w)).length < 2
    · have l2 : (yUp C (M d).1 (nI w)).length < 2 := by
        have := (nI_ltI (a := (yUp C (M d).1 (nI w)).length) (b := 2) (by omega) (by decide)).mp c
        exact this
      rw [if_pos c, if_pos (by rw [cs_one l2]; rfl)]
      exact kk h1 _ _ _ (sx_of st1)
    · rw [if_neg c]
      exact kk h1 _ _ _ (sx_of st1)
  | succ s ih =>
    intro i h l24 e sx
    have hi : i < (yUp C (M d).1 (nI w)).length := by omega
    obtain ⟨hu, hin⟩ := up_in (C := C) (H := (M d).1) (w := nI w) hi
    obtain ⟨ta, tu, tl, st⟩ := sx
    obtain ⟨h1, e1, st1⟩ := ck_at (j := 4) (i := i) (by decide) hW4 (by rw [List.length_map]; exact hi) st
    rw [nl4] at e1
    have e2 := ck_asked st1
    rw [map_at hi] at e2
    have nb := ub_bit (C := C) (H := (M d).1) (w := nI w) k2 hi
    have us := ub_s (C := C) (H := (M d).1) (w := nI w) k2 hi
    generalize hum : (yUp C (M d).1 (nI w)).getD i 0 = u at *
    have n9 := in_hangs hin
    obtain ⟨a, ha, ea⟩ := (v.1 u hu).resolve_left n9
    have fin : ∀ h, zSx r C d M K W Tx Ga Va n h → zOK (zev r i_L_law 1628 [some (.ref b), some (.ref (r.1 + 0)), some (.ref (r.1 + 49)), some (.ref (r.1 + 50)), some (.int (nI C.2.1)), some (.long bg), none, some (.int (nI tn)), some (.int (x)), some (.int (hg)), some (.int (nI d)), some (.long (dg)), none, some (.int (nI w)), some (.int (l14)), some (.int (l15)), some (.int (l16)), some (.int (l17)), some (.int (l18)), some (.int (l19)), some (.int (l20)), some (.int (nI (yCs (yAdj C (M d).1 (nI w)) (yHt C) (yUp C (M d).1 (nI w))))), some (.int (nI (yUp C (M d).1 (nI w)).length)), some (.int (ySt (yUb C (M d).1 (nI w) i) C.2.1)), some (.int (nI u)), some (.int (nI i)), none, none, none] [] h) := fun h sx => by
      obtain ⟨ta, tu, tl, st⟩ := sx
      obtain ⟨h1, e1, sx1⟩ := w_told4 hu st
      rw [E_L_law_1628, e1, zcI_some, ea, if_neg (nI_pos (by omega)), us, nI_1]
      exact ih (i + 1) h1 _ (by omega) sx1
    rw [E_L_law_1558, if_pos (nI_lt hi (by omega)), if_pos (st_ob st), e1, zcI_some, if_pos rfl, if_pos (st_ob st1), e2, zcI_some, E_L_law_1584, if_neg (nI_pos (by omega)), if_pos (nI_lt hu (by omega)), if_neg nb]
    by_cases c : (0 : Int32) < nI w
    · obtain ⟨h3, e3, sx3⟩ := w_told2 hu st1
      have w0 : ¬ nI w = 0 := fun q => by rw [q] at c; exact absurd c (by decide)
      have nw : ¬ C.2.2.2.2.1 u = nI w - 1 := fun q => hin (by unfold sIn; rw [if_neg n9, if_neg w0, if_pos q])
      rw [if_pos c, e3, zcI_some, if_neg nw]
      exact fin h3 sx3
    · rw [if_neg c]
      exact fin h1 (sx_of st1)
theorem w_1521 (E : zEk r) (h6 : d < 59) (m0 : 0 < C.2.1) (hw : w < 3) (hp : p ∈ yPs C) (hW1 : W 1 = some (p.map nI)) (hW0 : W 0 = none) (hW : ∀ j, 1 ≤ j → j < 4 → ∃ l, W j = some l) {l14 l15 l16 l17 l18 l19 l20 : Int32}
    (kk : ∀ W' h, W' 0 = none → (∀ j, 1 ≤ j → j < 6 → ∃ l, W' j = some l) → zSx r C d M K (W') Tx Ga Va n h → zOK (zev r i_L_law 54 [some (.ref b), some (.ref (r.1 + 0)), some (.ref (r.1 + 49)), some (.ref (r.1 + 50)), some (.int (nI C.2.1)), some (.long bg), none, some (.int (nI (tn + 1))), none, none, none, none, none, none, none, none, none, none, none, none, none, none, none, none, none, none, none, none, none] [] h)) (sx : zSx r C d M K W Tx Ga Va n h) : zOK (zev r i_L_law 1521 [some (.ref b), some (.ref (r.1 + 0)), some (.ref (r.1 + 49)), some (.ref (r.1 + 50)), some (.int (nI C.2.1)), some (.long bg), none, some (.int (nI tn)), some (.int (x)), some (.int (sMany C (M d).1 0)), some (.int (nI d)), some (.long (dg)), none, some (.int (nI w)), some (.int (l14)), some (.int (l15)), some (.int (l16)), some (.int (l17)), some (.int (l18)), some (.int (l19)), some (.int (l20)), none, none, none, none, none, none, none, none] [] h) := by
  obtain ⟨ta, tu, tl, st⟩ := sx
  have k := st_k st
  have ok := st_ok st
  obtain ⟨h1, e1, st1⟩ := ck_up E m0 (j := 4) (by decide) hw st
  rw [nl4] at e1
  obtain ⟨h2, e2, st2⟩ := ck_all E hw st1
  have e3 := ck_asked st2
  rw [many_sm k, ← up_len C (M d).1 (nI w)] at e3
  obtain ⟨a, ha, ea⟩ := lim_sAll k (l1_lk ok.2.1) ok.1.1 (nI w)
  have key := w_1558 (b := b) (tn := tn) (bg := bg) (dg := dg) (x := x) (hg := sMany C (M d).1 0) (l14 := l14) (l15 := l15) (l16 := l16) (l17 := l17) (l18 := l18) (l19 := l19) (l20 := l20) (W := va_up W 4 (some ((yUp C (M d).1 (nI w)).map nI))) (K := K) (Tx := Tx) (Ga := Ga) (Va := Va) (n := n) (r := r) k ok.1 hw va_same (fun h l23 l24 l25 sx => w_1685 E h6 m0 hp (by rw [va_ne (by decide)]; exact hW1) (by rw [va_ne (by decide)]; exact hW0) (fun j j1 j5 => by
    by_cases z : j = 4
    · subst z; exact ⟨_, va_same⟩
    · rw [va_ne z]; exact hW j j1 (by omega)) kk sx) (yUp C (M d).1 (nI w)).length 0 h2 (-1) (by omega) (sx_of st2)
  rw [ub_0, nl0] at key
  rw [E_L_law_1521, if_pos (st_ob st), e1, zcI_some, if_pos (st_ob st1), e2, zcI_some, if_neg (by rw [ea]; exact nI_pos (by omega)), if_pos (st_ob st2), e3, zcI_some]
  exact key
theorem all_hang (h : sMany C (M d).1 0 = nI C.2.1) (k2 : C.2.1 ≤ 6) : ∀ m, m < C.2.1 → ¬ (M d).1 m = -9 := fun m hm => by
  obtain ⟨z, hz, ez, -, z2⟩ := many_le (C := C) (H := (M d).1) 0 C.2.1
  have : z = C.2.1 := (nI_eq (by omega) (by omega)).mp (ez.symm.trans h)
  exact in_hangs (z2 this m hm)
theorem w_1381 (E : zEk r) (h6 : d < 59) (m0 : 0 < C.2.1) (hw : w < 3) (hW1 : W 1 = some ((yBp C (M d).2.1 0 (nI w)).2.map nI)) (hW2 : W 2 = some ((yBp C (M d).2.1 1 (nI w)).2.map nI)) (hW0 : W 0 = none) (hW3 : ∃ l, W 3 = some l)
    (kk : ∀ W' h, W' 0 = none → (∀ j, 1 ≤ j → j < 6 → ∃ l, W' j = some l) → zSx r C d M K (W') Tx Ga Va n h → zOK (zev r i_L_law 54 [some (.ref b), some (.ref (r.1 + 0)), some (.ref (r.1 + 49)), some (.ref (r.1 + 50)), some (.int (nI C.2.1)), some (.long bg), none, some (.int (nI (tn + 1))), none, none, none, none, none, none, none, none, none, none, none, none, none, none, none, none, none, none, none, none, none] [] h)) (sx : zSx r C d M K W Tx Ga Va n h) : zOK (zev r i_L_law 1381 [some (.ref b), some (.ref (r.1 + 0)), some (.ref (r.1 + 49)), some (.ref (r.1 + 50)), some (.int (nI C.2.1)), some (.long bg), none, some (.int (nI tn)), some (.int (x)), some (.int (sMany C (M d).1 0)), some (.int (nI d)), some (.long (dg)), none, some (.int (nI w)), some (.int ((yBp C (M d).2.1 0 (nI w)).1)), some (.int ((yBp C (M d).2.1 1 (nI w)).1)), some (.int ((yBp C (M d).2.1 2 0).1)), none, none, none, none, none, none, none, none, none, none, none, none] [] h) := by
  obtain ⟨ta, tu, tl, st⟩ := sx
  have k := st_k st
  have k2 := k.2.1
  have ok := st_ok st
  have lk := l1_lk ok.2.1
  obtain ⟨h1, e1, st1⟩ := ck_best E m0 (j := 4) (w := 1) (by decide) (by decide) st
  rw [nl1, nl4] at e1
  obtain ⟨h2, e2, st2⟩ := ck_best E m0 (j := 4) (w := 2) (by decide) (by decide) st1
  rw [nl2, nl4] at e2
  obtain ⟨h3, e3, st3⟩ := ck_fair E m0 (j := 4) (w := 1) (by decide) (by decide) st2
  rw [nl1, nl4] at e3
  obtain ⟨b0, hb0, eb0, pb0, sb0, ab0⟩ := best_ok k lk (nI w)
  obtain ⟨f0, hf0, ef0, pf0, ⟨g0, hg0, hg1, eg0⟩, af0⟩ := fair_ok k lk (nI w)
  obtain ⟨b1, hb1, eb1, pb1, sb1, ab1⟩ := best_ok k lk 1
  obtain ⟨b2, hb2, eb2, pb2, sb2, ab2⟩ := best_ok k lk 2
  obtain ⟨f1, hf1, ef1, pf1, -, af1⟩ := fair_ok k lk 1
  obtain ⟨x1, x2, hx1, hx2, ex, px, sx1, sx2, -⟩ := mixed_ok k lk
  obtain ⟨h4, e4, st4⟩ := ck_judge E m0 (j := 2) (by decide) hw (p := (yBp C (M d).2.1 1 (nI w)).2) (by rw [va_ne (by decide), va_ne (by decide), va_ne (by decide)]; exact hW2) pf0 st3
  rw [nl2] at e4
  obtain ⟨s, h5, hs, es, e5, st5⟩ := ck_mid E m0 hw st4
  have e6 := ck_upper st5
  have e7 := ck_lower st5
  obtain ⟨md1, md2⟩ := mid_ok k lk (nI w) hb0 ab0 hs es
  obtain ⟨h8, e8, st8⟩ := ck_mates m0 st5
  have e9 := ck_asked st8
  obtain ⟨ma, hma, ema⟩ := mates_lt k ok.1 m0
  obtain ⟨co, hco0, hco, eco, aco⟩ := could_ok k m0 (yPs C) 0 (fun _ h => h) m0
  rw [ema] at e8
  rw [show (yPs C).foldl (yMm C) 0 = nI co from eco] at e9
  rw [eb1] at e1
  rw [eb2] at e2
  rw [ef1] at e3
  rw [eg0] at e4
  rw [eb0, ef0, ex]
  have n1 : ¬ nI x1 + nI x2 < nI b1 + nI b2 := by
    obtain ⟨y1, h1, h1', h2⟩ := ab1 _ px
    obtain ⟨y2, h3, h3', h4⟩ := ab2 _ px
    have q1 : y1 = x1 := (nI_eq (by omega) (by omega)).mp (h2.symm.trans sx1)
    have q2 : y2 = x2 := (nI_eq (by omega) (by omega)).mp (h4.symm.trans sx2)
    rw [nI_add, nI_add]
    exact nI_nlt (by omega) (by omega)
  have n2 : ¬ nI b1 < nI f1 := by
    obtain ⟨y1, h1, h1', h2⟩ := af1 _ pb1
    have q1 : y1 = b1 := (nI_eq (by omega) (by omega)).mp (h2.symm.trans sb1)
    exact nI_nlt (by omega) (by omega)
  have n3 : ¬ nI g0 < nI f0 := nI_nlt hg0 (by omega)
  rw [E_L_law_1381, if_pos (st_ob st), e1, zcI_some, if_pos (st_ob st1), e2, zcI_some, if_neg n1, if_pos (st_ob st2), e3, zcI_some, if_neg n2, if_pos (st_ob st3), e4, zcI_some, if_neg n3, if_pos (st_ob st4), e5, zcI_some, if_pos rfl, if_pos (st_ob st5), e6, zcL_some, if_pos (st_ob st5), e7, zcL_some, if_neg md1, if_pos (st_ob st5), e7, zcL_some, if_neg md2, if_pos (st_ob st5), e8, zcI_some, if_pos (st_ob st8), e9, zcI_some, if_neg (nI_pos (by omega)), if_neg (nI_pos (by omega)), if_pos (nI_lt hco (by omega)), if_pos (nI_lt hma (by omega))]
  have fin : ∀ l17 l18 l19 l20 l14 l15 l16, zOK (zev r i_L_law 1521 [some (.ref b), some (.ref (r.1 + 0)), some (.ref (r.1 + 49)), some (.ref (r.1 + 50)), some (.int (nI C.2.1)), some (.long bg), none, some (.int (nI tn)), some (.int (x)), some (.int (sMany C (M d).1 0)), some (.int (nI d)), some (.long (dg)), none, some (.int (nI w)), some (.int (l14)), some (.int (l15)), some (.int (l16)), some (.int (l17)), some (.int (l18)), some (.int (l19)), some (.int (l20)), none, none, none, none, none, none, none, none] [] h8) := fun l17 l18 l19 l20 l14 l15 l16 => w_1521 E h6 m0 hw (p := (yBp C (M d).2.1 0 (nI w)).2) pb0 (by rw [va_ne (by decide), va_ne (by decide), va_ne (by decide)]; exact hW1) (by rw [va_ne (by decide), va_ne (by decide), va_ne (by decide)]; exact hW0) (fun j j1 j4 => by
    rw [va_ne (by omega), va_ne (by omega), va_ne (by omega)]
    match j, j1, j4 with
    | 1, _, _ => exact ⟨_, hW1⟩
    | 2, _, _ => exact ⟨_, hW2⟩
    | 3, _, _ => exact hW3
    | 0, h, _ => exact absurd h (by omega)
    | j + 4, _, h => exact absurd h (by omega)) kk (sx_of st8)
  by_cases c : sMany C (M d).1 0 = nI C.2.1
  · have nm : ¬ nI co < nI ma := by
      obtain ⟨q, hq, eq⟩ := all_plan k ok.1 (all_hang c k2)
      obtain ⟨y, hy, ey⟩ := aco q hq
      rw [← sMates_c eq, ema] at ey
      have : ma = y := (nI_eq (by omega) (by omega)).mp ey
      exact nI_nlt (by omega) (by omega)
    rw [if_pos c, if_neg nm]
    exact fin _ _ _ _ _ _ _
  · rw [if_neg c]
    exact fin _ _ _ _ _ _ _
theorem w_202e (E : zEk r) (h6 : d < 59) (m0 : 0 < C.2.1) (hW0 : W 0 = none)
    (kk : ∀ W' h, W' 0 = none → (∀ j, 1 ≤ j → j < 6 → ∃ l, W' j = some l) → zSx r C d M K (W') Tx Ga Va n h → zOK (zev r i_L_law 54 [some (.ref b), some (.ref (r.1 + 0)), some (.ref (r.1 + 49)), some (.ref (r.1 + 50)), some (.int (nI C.2.1)), some (.long bg), none, some (.int (nI (tn + 1))), none, none, none, none, none, none, none, none, none, none, none, none, none, none, none, none, none, none, none, none, none] [] h)) (sx : zSx r C d M K W Tx Ga Va n h) : zOK (zev r i_L_law 202 [some (.ref b), some (.ref (r.1 + 0)), some (.ref (r.1 + 49)), some (.ref (r.1 + 50)), some (.int (nI C.2.1)), some (.long bg), none, some (.int (nI tn)), some (.int (x)), some (.int (sMany C (M d).1 0)), some (.int (nI d)), some (.long (dg)), none, some (.int (nI 3)), none, none, none, none, none, none, none, none, none, none, none, none, none, none, none] [] h) := by
  obtain ⟨ta, tu, tl, st⟩ := sx
  have k := st_k st
  have k2 := k.2.1
  have ok := st_ok st
  have lk := l1_lk ok.2.1
  obtain ⟨w, hw, e0⟩ := w_low r h (x >>> ((8 : Int32) &&& 31)) (m := 3) (by decide) (by decide)
  rw [nl3] at e0
  obtain ⟨h1, e1, st1⟩ := ck_best E m0 (j := 1) (by decide) hw st
  rw [nl1] at e1
  obtain ⟨h2, e2, st2⟩ := ck_fair E m0 (j := 2) (by decide) hw st1
  rw [nl2] at e2
  obtain ⟨h3, e3, st3⟩ := ck_mixed E m0 (j := 3) (by decide) st2
  rw [nl3] at e3
  obtain ⟨b0, hb0, eb0, pb0, sb0, ab0⟩ := best_ok k lk (nI w)
  obtain ⟨f0, hf0, ef0, pf0, ⟨g0, hg0, hg1, eg0⟩, af0⟩ := fair_ok k lk (nI w)
  obtain ⟨x1, x2, hx1, hx2, ex, px, sx1, sx2, ax⟩ := mixed_ok k lk
  obtain ⟨h4, e4, st4⟩ := ck_judge E m0 (j := 1) (by decide) hw (p := (yBp C (M d).2.1 0 (nI w)).2) (by rw [va_ne (by decide), va_ne (by decide), va_same]) pb0 st3
  rw [nl1, sb0] at e4
  obtain ⟨h5, e5, st5⟩ := ck_judge E m0 (j := 2) (by decide) hw (p := (yBp C (M d).2.1 1 (nI w)).2) (by rw [va_ne (by decide), va_same]) pf0 st4
  obtain ⟨y2, hy2, hy2', ey2⟩ := ab0 _ pf0
  rw [nl2, ey2] at e5
  obtain ⟨h7, e7, st7⟩ := ck_judge E m0 (j := 3) (w := 1) (by decide) (by decide) (p := (yBp C (M d).2.1 2 0).2) va_same px st5
  rw [nl3, nl1, sx1] at e7
  obtain ⟨h8, e8, st8⟩ := ck_judge E m0 (j := 3) (w := 2) (by decide) (by decide) (p := (yBp C (M d).2.1 2 0).2) va_same px st7
  rw [nl3, nl2, sx2] at e8
  have fb : ¬ nI b0 < nI f0 := by
    obtain ⟨y, h1, h2, h3⟩ := af0 _ pb0
    have : y = b0 := (nI_eq (by omega) (by omega)).mp (h3.symm.trans sb0)
    exact nI_nlt (by omega) (by omega)
  have fin : ∀ h, zSx r C d M K (va_up (va_up (va_up W 1 (some ((yBp C (M d).2.1 0 (nI w)).2.map nI))) 2 (some ((yBp C (M d).2.1 1 (nI w)).2.map nI))) 3 (some ((yBp C (M d).2.1 2 0).2.map nI))) Tx Ga Va n h → zOK (zev r i_L_law 1381 [some (.ref b), some (.ref (r.1 + 0)), some (.ref (r.1 + 49)), some (.ref (r.1 + 50)), some (.int (nI C.2.1)), some (.long bg), none, some (.int (nI tn)), some (.int (x)), some (.int (sMany C (M d).1 0)), some (.int (nI d)), some (.long (dg)), none, some (.int (nI w)), some (.int ((yBp C (M d).2.1 0 (nI w)).1)), some (.int ((yBp C (M d).2.1 1 (nI w)).1)), some (.int ((yBp C (M d).2.1 2 0).1)), none, none, none, none, none, none, none, none, none, none, none, none] [] h) := fun h sx => w_1381 E h6 m0 hw (by rw [va_ne (by decide), va_ne (by decide), va_same]) (by rw [va_ne (by decide), va_same]) (by rw [va_ne (by decide), va_ne (by decide), va_ne (by decide)]; exact hW0) ⟨_, va_same⟩ kk sx
  rw [eb0, ef0, ex] at fin
  rw [eb0] at e1
  rw [ef0] at e2
  rw [ex] at e3
  rw [E_L_law_202, if_neg (by decide), e0, zcI_some, if_pos (st_ob st), e1, zcI_some, if_pos (st_ob st1), e2, zcI_some, if_pos (st_ob st2), e3, zcI_some, if_neg (nI_pos (by omega)), if_pos (st_ob st3), e4, zcI_some, if_pos rfl, if_pos (st_ob st4), e5, zcI_some, if_neg (nI_nlt hy2 (by omega)), if_neg (nI_pos (by omega)), if_neg fb, if_pos (st_ob st5), e7, zcI_some, if_pos (st_ob st7), e8, zcI_some, if_pos rfl]
  by_cases c : sMany C (M d).1 0 = nI C.2.1
  · obtain ⟨q, hq, eq⟩ := all_plan k ok.1 (all_hang c k2)
    obtain ⟨h9, e9, st9⟩ := ck_all E hw st8
    obtain ⟨h10, e10, st10⟩ := ck_all E (w := 1) (by decide) st9
    obtain ⟨h11, e11, st11⟩ := ck_all E (w := 2) (by decide) st10
    rw [nl1] at e10
    rw [nl2] at e11
    rw [sAll_c (H := yPl q) (L := (M d).2.1) eq (fun _ _ => rfl)] at e9 e10 e11
    obtain ⟨z0, hz0, hz0', ez0⟩ := ab0 q hq
    obtain ⟨z1, z2, hz1, hz2, hz, ez1, ez2⟩ := ax q hq
    rw [ez0] at e9
    rw [ez1] at e10
    rw [ez2] at e11
    rw [if_pos c, if_pos (st_ob st8), e9, zcI_some, if_neg (nI_nlt hz0 (by omega)), if_pos (st_ob st9), e10, zcI_some, if_pos (st_ob st10), e11, zcI_some, if_neg (by rw [nI_add, nI_add]; exact nI_nlt hz (by omega))]
    exact fin h11 (sx_of st11)
  · rw [if_neg c]
    exact fin h8 (sx_of st8)
end WU
