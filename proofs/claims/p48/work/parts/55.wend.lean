/-! THE LAW'S WALK: books, lots -/
section WE
variable {r : zE} {C : zCs} {d : Nat} {M : Nat → zDk} {K : Nat → Option (Nat × (Nat → zDk))} {W Tx : Nat → Option (List Int32)} {Ga Va : zA} {n : Nat} {h : zH} {b tn : Nat} {bg dg lb : Int64} {x : Int32} {w : Nat} {p : List Nat}
theorem and_lim (v : Int32) : ∃ a, a ≤ 16777215 ∧ v &&& 16777215 = nI a := by
  have key : (v &&& 16777215).toBitVec.toNat ≤ 16777215 := by
    rw [Int32.toBitVec_and, BitVec.toNat_and]
    have h4 : (16777215 : Int32).toBitVec.toNat = 16777215 := by decide
    rw [h4]
    exact Nat.and_le_right
  refine ⟨(v &&& 16777215).toBitVec.toNat, key, ?_⟩
  apply Int32.toBitVec_inj.mp
  apply BitVec.eq_of_toNat_eq
  show _ = (Int32.ofNat _).toBitVec.toNat
  rw [Int32.toBitVec_ofNat', BitVec.toNat_ofNat]
  exact (Nat.mod_eq_of_lt (by omega)).symm
theorem up_up {α : Type} {f : Nat → α} {k : Nat} {v w : α} : va_up (va_up f k v) k w = va_up f k w := bx_uu f k v w
theorem w_lay5 {ta : Int32} {tu tl : Int64} {i : Nat} {l : List Int32} (v : Int32) (hi : i < l.length) (st : zSt r C d M K (va_up W 5 (some l)) Tx ta tu tl Ga Va n h) : ∃ h', zev r i_X5_lay 0 [some (.ref (r.1 + 0)), some (.int 5), some (.int (nI i)), some (.int v), none] [] h = some (some (.int 1), h') ∧ ∃ ta, zSt r C d M K (va_up W 5 (some (l.set i v))) Tx ta tu tl Ga Va n h' := by
  obtain ⟨h1, e1, st1⟩ := ck_lay (j := 5) v (by decide) va_same hi st
  rw [up_up] at st1
  exact ⟨h1, e1, _, st1⟩
theorem cnt_2 {d : Nat} {D : zDk} : yCv C d D K W Tx 2 = nI d := rfl
theorem cnt_3 {d : Nat} {D : zDk} : yCv C d D K W Tx 3 = sMany C D.1 0 := rfl
theorem w_1830 (E : zEk r) (h6 : d < 59) (m0 : 0 < C.2.1) (hp : p ∈ yPs C) (hW1 : W 1 = some (p.map nI)) (hW0 : W 0 = none) (hW : ∀ j, 1 ≤ j → j < 5 → ∃ l, W j = some l) {l13 l14 l15 l16 l17 l18 l19 l20 l21 l22 l23 l24 l25 : Int32}
    (hlb : ∃ c, lb = (nI c).toInt64 ∧ c ≤ ((yPs C).filter fun q => yFt C (M d).2.1 (fun i => [1, sAll C (yPl p) (M d).2.1 1].getD i 0) q 1).length)
    (kk : ∀ W' h, W' 0 = none → (∀ j, 1 ≤ j → j < 6 → ∃ l, W' j = some l) → zSx r C d M K (W') Tx Ga Va n h → zOK (zev r i_L_law 54 [some (.ref b), some (.ref (r.1 + 0)), some (.ref (r.1 + 49)), some (.ref (r.1 + 50)), some (.int (nI C.2.1)), some (.long bg), none, some (.int (nI (tn + 1))), none, none, none, none, none, none, none, none, none, none, none, none, none, none, none, none, none, none, none, none, none] [] h)) (sx : zSx r C d M K W Tx Ga Va n h) : zOK (zev r i_L_law 1830 [some (.ref b), some (.ref (r.1 + 0)), some (.ref (r.1 + 49)), some (.ref (r.1 + 50)), some (.int (nI C.2.1)), some (.long bg), none, some (.int (nI tn)), some (.int (x)), some (.int (sMany C (M d).1 0)), some (.int (nI d)), some (.long (dg)), none, some (.int (l13)), some (.int (l14)), some (.int (l15)), some (.int (l16)), some (.int (l17)), some (.int (l18)), some (.int (l19)), some (.int (l20)), some (.int (l21)), some (.int (l22)), some (.int (l23)), some (.int (l24)), some (.int (l25)), some (.long (lb)), none, none] [] h) := by
  obtain ⟨ta, tu, tl, st⟩ := sx
  have k := st_k st
  have ok := st_ok st
  obtain ⟨h1, e1, st1⟩ := ck_row (j := 5) (k := 2) (by decide) (by decide) st
  rw [nl5, nl2] at e1
  obtain ⟨h2, e2, ta2, st2⟩ := w_lay5 (i := 0) 1 (by decide) st1
  rw [nl0] at e2
  obtain ⟨h3, e3, st3⟩ := ck_judge E m0 (j := 1) (w := 1) (by decide) (by decide) (by rw [va_ne (by decide)]; exact hW1) hp st2
  rw [nl1] at e3
  obtain ⟨h4, e4, ta4, st4⟩ := w_lay5 (i := 1) (sAll C (yPl p) (M d).2.1 1) (by decide) st3
  rw [nl1] at e4
  have st4' : zSt r C d M K (va_up W 5 (some [1, sAll C (yPl p) (M d).2.1 1])) Tx ta4 tu tl Ga Va n h4 := st4
  obtain ⟨h5, e5, st5⟩ := ck_fits E m0 (j := 5) (b := 1) (l := [1, sAll C (yPl p) (M d).2.1 1]) (by decide) va_same rfl (all_true.mpr fun q hq => by
    have : q = 0 := by omega
    subst this
    show decide (zhk 3 1 = 1) = true
    decide) st4'
  rw [nl5] at e5
  have e6 := ck_upper st5
  obtain ⟨c, c1, c2, c3, c4, -, -⟩ := book_ok (L := (M d).2.1) (f := fun i => [1, sAll C (yPl p) (M d).2.1 1].getD i 0) (b := 1) k m0 hp ((ft_1 rfl rfl p).mpr rfl)
  rw [c4] at e6
  obtain ⟨s, hs, es⟩ := and_lim x
  have hsd : (1 : Int32) + (x &&& 16777215) = nI (1 + s) := by rw [es]; exact nI_add 1 s
  obtain ⟨w1, w2, h7, e7, st7⟩ := ck_lots E (s := 1 + s) (by omega) (by omega) m0 h6 st5
  have e8 := ck_count (w := 2) (by decide) st7
  rw [nl2, cnt_2] at e8
  obtain ⟨h9, e9, st9⟩ := ck_undo (e := d) (M' := M) (by omega) (fun j hj => by rw [va_ne (by omega), va_ne (by omega)]) st7
  rw [show d + 2 - d = 2 by omega, nl2] at e9
  have e10 := ck_count (w := 2) (by decide) st9
  rw [nl2, cnt_2] at e10
  have e11 := ck_count (w := 3) (by decide) st9
  rw [nl3, cnt_3] at e11
  have k2 := k.2.1
  have n7 : ¬ 0 + yNv C (M d) w1 + yNv C (yNd C (M d) w1) w2 < 0 := by
    obtain ⟨a, a', h1, h2, ea, -⟩ := night_ok k ok w1
    have ok2 : zOk C (yNd C (M d) w1) := ⟨ok.1, ok.2.1, fun m hm => by
      obtain ⟨_, y, _, _, _, _, _, e, hy, _⟩ := na_t9 k ok w1 hm
      exact ⟨y, hy, e⟩⟩
    obtain ⟨b, b', h3, h4, eb, -⟩ := night_ok k ok2 w2
    rw [ea, eb, show (0 : Int32) = nI 0 from rfl, nI_add, nI_add]
    exact nI_pos (by omega)
  have nlb : ¬ lg_cmp (nI c).toInt64 lb < 0 := by
    obtain ⟨c', e, hc'⟩ := hlb
    rw [e, nI_l (by omega), nI_l (by omega)]
    unfold lg_cmp
    by_cases q : lN c > lN c'
    · rw [if_pos q]; decide
    · rw [if_neg q]
      have h1 := mt (pk_lLT (a := c') (b := c) (by omega) (by omega)).mpr q
      have : c = c' := by omega
      rw [if_pos (by rw [this])]; decide
  rw [E_L_law_1830, if_pos (st_ob st), e1, zcI_some, if_pos rfl, if_pos (st_ob st1), e2, zcI_some, if_pos rfl, if_pos (st_ob st2), e3, zcI_some, if_pos (st_ob st3), e4, zcI_some, if_pos rfl, if_pos (st_ob st4), e5, zcI_some, if_pos rfl, if_pos (st_ob st5), e6, zcL_some, if_neg nlb, if_pos (st_ob st5), hsd, e7, zcI_some, if_neg n7, if_pos (st_ob st7), e8, zcI_some, if_pos (show nI (d + 2) = nI d + 2 from (nI_add d 2).symm), if_pos (st_ob st7), e9, zcI_some, if_pos rfl, if_pos (st_ob st9), e10, zcI_some, if_pos rfl, if_pos (st_ob st9), e11, zcI_some, if_pos rfl, nI_1]
  refine kk _ h9 ?_ (fun j j1 j6 => ?_) (sx_of st9)
  · rw [va_ne (by decide)]; exact hW0
  · by_cases z : j = 5
    · subst z; exact ⟨_, va_same⟩
    · rw [va_ne z]; exact hW j j1 (by omega)
theorem cmp_eq (a : Int64) : lg_cmp a a = 0 := by unfold lg_cmp; simp
theorem w_1685 (E : zEk r) (h6 : d < 59) (m0 : 0 < C.2.1) (hp : p ∈ yPs C) (hW1 : W 1 = some (p.map nI)) (hW0 : W 0 = none) (hW : ∀ j, 1 ≤ j → j < 5 → ∃ l, W j = some l) {l13 l14 l15 l16 l17 l18 l19 l20 l21 l22 l23 l24 l25 : Int32}
    (kk : ∀ W' h, W' 0 = none → (∀ j, 1 ≤ j → j < 6 → ∃ l, W' j = some l) → zSx r C d M K (W') Tx Ga Va n h → zOK (zev r i_L_law 54 [some (.ref b), some (.ref (r.1 + 0)), some (.ref (r.1 + 49)), some (.ref (r.1 + 50)), some (.int (nI C.2.1)), some (.long bg), none, some (.int (nI (tn + 1))), none, none, none, none, none, none, none, none, none, none, none, none, none, none, none, none, none, none, none, none, none] [] h)) (sx : zSx r C d M K W Tx Ga Va n h) : zOK (zev r i_L_law 1685 [some (.ref b), some (.ref (r.1 + 0)), some (.ref (r.1 + 49)), some (.ref (r.1 + 50)), some (.int (nI C.2.1)), some (.long bg), none, some (.int (nI tn)), some (.int (x)), some (.int (sMany C (M d).1 0)), some (.int (nI d)), some (.long (dg)), none, some (.int (l13)), some (.int (l14)), some (.int (l15)), some (.int (l16)), some (.int (l17)), some (.int (l18)), some (.int (l19)), some (.int (l20)), some (.int (l21)), some (.int (l22)), some (.int (l23)), some (.int (l24)), some (.int (l25)), none, none, none] [] h) := by
  obtain ⟨ta, tu, tl, st⟩ := sx
  have k := st_k st
  have k1 := k.1
  obtain ⟨pl, pb⟩ := yPs_mem hp
  obtain ⟨h1, e1, st1⟩ := ck_row (j := 5) (k := 4) (by decide) (by decide) st
  rw [nl5, nl4] at e1
  obtain ⟨h2, e2, ta2, st2⟩ := w_lay5 (i := 0) 1 (by decide) st1
  rw [nl0] at e2
  obtain ⟨h3, e3, st3⟩ := ck_judge E m0 (j := 1) (w := 1) (by decide) (by decide) (by rw [va_ne (by decide)]; exact hW1) hp st2
  rw [nl1] at e3
  obtain ⟨h4, e4, ta4, st4⟩ := w_lay5 (i := 1) (sAll C (yPl p) (M d).2.1 1) (by decide) st3
  rw [nl1] at e4
  obtain ⟨h5, e5, ta5, st5⟩ := w_lay5 (i := 2) 2 (Nat.le_of_ble_eq_true rfl) st4
  rw [nl2] at e5
  obtain ⟨h6', e6, st6⟩ := ck_judge E m0 (j := 1) (w := 2) (by decide) (by decide) (by rw [va_ne (by decide)]; exact hW1) hp st5
  rw [nl1, nl2] at e6
  obtain ⟨h7, e7, ta7, st7⟩ := w_lay5 (i := 3) (sAll C (yPl p) (M d).2.1 2) (Nat.le_of_ble_eq_true rfl) st6
  rw [nl3] at e7
  have st7' : zSt r C d M K (va_up W 5 (some [1, sAll C (yPl p) (M d).2.1 1, 2, sAll C (yPl p) (M d).2.1 2])) Tx ta7 tu tl Ga Va n h7 := st7
  have ob7 := st_ob st7'
  obtain ⟨h8, e8, st8⟩ := ck_fits E m0 (j := 5) (b := 2) (l := [1, sAll C (yPl p) (M d).2.1 1, 2, sAll C (yPl p) (M d).2.1 2]) (by decide) va_same rfl (all_true.mpr fun q hq => by
    by_cases z : q = 0
    · subst z
      show decide (zhk 3 1 = 1) = true
      decide
    · have : q = 1 := by omega
      subst this
      show decide (zhk 3 2 = 1) = true
      decide) st7'
  rw [nl5] at e8
  have e9 := ck_upper st8
  have e10 := ck_lower st8
  have e11 := ck_asked st8
  obtain ⟨c, c1, c2, c3, c4, c5, c6⟩ := book_ok (L := (M d).2.1) (f := fun i => [1, sAll C (yPl p) (M d).2.1 1, 2, sAll C (yPl p) (M d).2.1 2].getD i 0) (b := 2) k m0 hp ((ft_2 rfl rfl rfl rfl p).mpr ⟨rfl, rfl⟩)
  rw [c4] at e9
  have hlb : ∃ c', (nI c).toInt64 = (nI c').toInt64 ∧ c' ≤ ((yPs C).filter fun q => yFt C (M d).2.1 (fun i => [1, sAll C (yPl p) (M d).2.1 1].getD i 0) q 1).length := ⟨c, rfl, by
    rw [c3]
    exact filter_mono fun q hq => (ft_1 rfl rfl q).mpr ((ft_2 rfl rfl rfl rfl q).mp hq).1⟩
  have n1 : ¬ lg_cmp (nI c).toInt64 1 < 0 := by
    rw [nI_l (by omega)]
    unfold lg_cmp
    by_cases q : lN c > 1
    · rw [if_pos q]; decide
    · rw [if_neg q]
      have h1 := mt (pk_lLT (a := 1) (b := c) (by omega) (by omega)).mpr q
      have : c = 1 := by omega
      rw [if_pos (by rw [this]; rfl)]; decide
  have c0 : lg_cmp (nI c).toInt64 1 = 0 ↔ c = 1 := by
    rw [nI_l (by omega)]
    unfold lg_cmp
    constructor
    · intro q
      by_cases q1 : lN c > 1
      · rw [if_pos q1] at q; exact absurd q (by decide)
      · rw [if_neg q1] at q
        by_cases q2 : lN c = 1
        · exact (pk_lEQ (a := c) (b := 1) (by omega) (by decide)).mp q2
        · rw [if_neg q2] at q; exact absurd q (by decide)
    · intro q
      subst q
      rfl
  have fin : ∀ v11 h, zSx r C d M K (va_up W 5 (some [1, sAll C (yPl p) (M d).2.1 1, 2, sAll C (yPl p) (M d).2.1 2])) Tx Ga Va n h → zOK (zev r i_L_law 1830 [some (.ref b), some (.ref (r.1 + 0)), some (.ref (r.1 + 49)), some (.ref (r.1 + 50)), some (.int (nI C.2.1)), some (.long bg), none, some (.int (nI tn)), some (.int (x)), some (.int (sMany C (M d).1 0)), some (.int (nI d)), some (.long (dg)), none, some (.int (l13)), some (.int (l14)), some (.int (l15)), some (.int (l16)), some (.int (l17)), some (.int (l18)), some (.int (l19)), some (.int (l20)), some (.int (l21)), some (.int (l22)), some (.int (l23)), some (.int (l24)), some (.int (v11)), some (.long ((nI c).toInt64)), none, none] [] h) := fun v11 h sx => w_1830 E h6 m0 hp (by rw [va_ne (by decide)]; exact hW1) (by rw [va_ne (by decide)]; exact hW0) (fun j j1 j5 => by rw [va_ne (by omega)]; exact hW j j1 j5) hlb (fun W' h a b s => kk W' h a b s) sx
  rw [E_L_law_1685, if_pos (st_ob st), e1, zcI_some, if_pos rfl, if_pos (st_ob st1), e2, zcI_some, if_pos rfl, if_pos (st_ob st2), e3, zcI_some, if_pos (st_ob st3), e4, zcI_some, if_pos rfl, if_pos (st_ob st4), e5, zcI_some, if_pos rfl, if_pos (st_ob st5), e6, zcI_some, if_pos (st_ob st6), e7, zcI_some, if_pos rfl, if_pos ob7, e8, zcI_some, if_pos rfl, if_pos (st_ob st8), e9, zcL_some, if_neg n1, if_pos (st_ob st8), e10, zcL_some, if_pos (cmp_eq 1), if_pos (st_ob st8), e11, zcI_some, if_pos (st_ob st8), e9, zcL_some]
  rcases c6 with z | z
  · have nc : ¬ lg_cmp (nI c).toInt64 1 = 0 := fun q => c5 z (c0.mp q)
    rw [if_pos z, if_neg nc]
    exact fin _ h8 (sx_of st8)
  · have p0 : p.getD 0 0 < C.1 := pb _ (by
      rw [List.getD_eq_getElem?_getD, List.getElem?_eq_getElem (by omega)]
      exact List.getElem_mem _)
    have n9 : ¬ ((yPs C).foldl (yGf C (M d).2.1 (fun i => [1, sAll C (yPl p) (M d).2.1 1, 2, sAll C (yPl p) (M d).2.1 2].getD i 0) 2) (0, -9)).2 = -9 := by rw [z]; exact nI_n9 (by omega)
    obtain ⟨h12, e12, st12⟩ := ck_at (j := 1) (i := 0) (l := p.map nI) (by decide) (by rw [va_ne (by decide)]; exact hW1) (by rw [List.length_map]; omega) st8
    rw [nl1, nl0] at e12
    have e13 := ck_asked st12
    rw [map_at (by omega)] at e13
    rw [if_neg n9, if_pos (st_ob st8), e12, zcI_some, if_pos rfl, if_pos (st_ob st12), e13, zcI_some, if_pos z.symm]
    by_cases q : lg_cmp (nI c).toInt64 1 = 0
    · rw [if_pos q, if_neg n9]
      exact fin _ h12 (sx_of st12)
    · rw [if_neg q]
      exact fin _ h12 (sx_of st12)
end WE
