/-! STIRRING: what the law does to the deck between two looks -/
/-- the law's own array tells the deck -/
def zSy (C : zCs) (D : zDk) (V : zA) : Prop := (∀ m, m < 6 → V m = if m < C.2.1 then D.1 m else -9) ∧ ∀ m, m < C.2.1 → V (6 + m) = D.2.1 m
def zStR (r : zE) (C : zCs) (K : Nat → Option (Nat × (Nat → zDk))) (W Tx : Nat → Option (List Int32)) (Ga : zA) (n e : Nat) (D0 : zDk) (q : Option zRes) : Prop := ∃ d M Va h, d ≤ e ∧ M 0 = D0 ∧ q = some (some (.int 1), h) ∧ zSy C (M d) Va ∧ zSx r C d M K W Tx Ga Va n h
section STG
variable {r : zE} {C : zCs} {d : Nat} {M : Nat → zDk} {K : Nat → Option (Nat × (Nat → zDk))} {W Tx : Nat → Option (List Int32)} {ta : Int32} {tu tl : Int64} {Ga Va : zA} {n : Nat} {h : zH}
theorem st_g {j : Nat} (hj : j < 27) (st : zSt r C d M K W Tx ta tu tl Ga Va n h) : zaI r h (r.1 + 49) (nI j) = some (Ga j) := by
  obtain ⟨c, c2, I, J, Q, N, A, t, rfl, iv, t1, t2⟩ := st
  exact ma_49 hj
theorem st_v {j : Nat} (hj : j < 18) (st : zSt r C d M K W Tx ta tu tl Ga Va n h) : zaI r h (r.1 + 50) (nI j) = some (Va j) := by
  obtain ⟨c, c2, I, J, Q, N, A, t, rfl, iv, t1, t2⟩ := st
  exact ma_50 hj
theorem st_sg {j : Nat} (hj : j < 27) (v : Int32) (st : zSt r C d M K W Tx ta tu tl Ga Va n h) : ∃ h', zsI r h (r.1 + 49) (nI j) v = some h' ∧ zSt r C d M K W Tx ta tu tl (upd Ga j v) Va n h' := by
  obtain ⟨c, c2, I, J, Q, N, A, t, rfl, iv, t1, t2⟩ := st
  exact ⟨_, mw_49 hj, st_mk iv t1 t2⟩
theorem st_sv {j : Nat} (hj : j < 18) (v : Int32) (st : zSt r C d M K W Tx ta tu tl Ga Va n h) : ∃ h', zsI r h (r.1 + 50) (nI j) v = some h' ∧ zSt r C d M K W Tx ta tu tl Ga (upd Va j v) n h' := by
  obtain ⟨c, c2, I, J, Q, N, A, t, rfl, iv, t1, t2⟩ := st
  exact ⟨_, mw_50 hj, st_mk iv t1 t2⟩
theorem w_who5 (hv : Int32) (st : zSt r C d M K W Tx ta tu tl Ga Va n h) : ∀ s i R, i + s = 6 → ((R = -9 ∧ ∀ m, m < i → ¬ Va m = hv) ∨ ∃ m, m < 6 ∧ R = nI m ∧ Va m = hv) → ∃ R', zev r i_L_whoAt 5 [some (.ref (r.1 + 50)), some (.int hv), some (.int R), some (.int (nI i))] [] h = some (some (.int R'), h) ∧ ((R' = -9 ∧ ∀ m, m < 6 → ¬ Va m = hv) ∨ ∃ m, m < 6 ∧ R' = nI m ∧ Va m = hv) := by
  intro s
  induction s with
  | zero =>
    intro i R e hR
    have : i = 6 := by omega
    subst this
    refine ⟨R, ?_, hR⟩
    rw [E_L_whoAt_5, if_neg (by decide)]
  | succ s ih =>
    intro i R e hR
    have i6 : nI i < 6 := nI_lt (b := 6) (by omega) (by decide)
    rw [E_L_whoAt_5, if_pos i6, st_v (by omega) st, Option.bind_some]
    by_cases c : Va i = hv
    · rw [if_pos c, nI_1]
      exact ih (i + 1) (nI i) (by omega) (.inr ⟨i, by omega, rfl, c⟩)
    · rw [if_neg c, nI_1]
      refine ih (i + 1) R (by omega) ?_
      rcases hR with ⟨h1, h2⟩ | h1
      · refine .inl ⟨h1, fun m hm => ?_⟩
        by_cases z : m = i
        · rw [z]; exact c
        · exact h2 m (by omega)
      · exact .inr h1
theorem w_who (hv : Int32) (st : zSt r C d M K W Tx ta tu tl Ga Va n h) : ∃ R, zev r i_L_whoAt 0 [some (.ref (r.1 + 50)), some (.int hv), none, none] [] h = some (some (.int R), h) ∧ ((R = -9 ∧ ∀ m, m < 6 → ¬ Va m = hv) ∨ ∃ m, m < 6 ∧ R = nI m ∧ Va m = hv) := by
  rw [E_L_whoAt_0]
  exact w_who5 hv st 6 0 (-9) rfl (.inl ⟨rfl, fun m hm => absurd hm (Nat.not_lt_zero _)⟩)
end STG
section SY
variable {C : zCs} {D : zDk} {V : zA} {m q : Nat} {v : Int32}
theorem sy_at (s : zSy C D V) (k2 : C.2.1 ≤ 6) (hm : m < C.2.1) : V m = D.1 m := by
  rw [s.1 m (by omega), if_pos hm]
theorem sy_h (s : zSy C D V) (k2 : C.2.1 ≤ 6) (hm : m < C.2.1) : zSy C (upd D.1 m v, D.2.1, D.2.2) (upd V m v) := by
  refine ⟨fun p hp => ?_, fun p hp => ?_⟩
  · by_cases c : p = m
    · rw [c, upd_s, if_pos hm]
      exact upd_s.symm
    · rw [upd_n c, s.1 p hp]
      show _ = if p < C.2.1 then upd D.1 m v p else -9
      rw [upd_n c]
  · rw [upd_n (by omega)]
    exact s.2 p hp
theorem sy_l (s : zSy C D V) (hm : m < C.2.1) : zSy C (D.1, upd D.2.1 m v, D.2.2) (upd V (6 + m) v) := by
  refine ⟨fun p hp => ?_, fun p hp => ?_⟩
  · rw [upd_n (by omega)]
    exact s.1 p hp
  · show _ = upd D.2.1 m v p
    by_cases c : p = m
    · rw [c, upd_s, upd_s]
    · rw [upd_n c, upd_n (by omega)]
      exact s.2 p hp
theorem sy_sw (s : zSy C D V) (k2 : C.2.1 ≤ 6) (hm : m < C.2.1) (hq : q < C.2.1) (u : m ≠ q) : zSy C (ySw D.1 m q, D.2.1, D.2.2) (upd (upd V m (V q)) q (V m)) := by
  refine ⟨fun p hp => ?_, fun p hp => ?_⟩
  · show _ = if p < C.2.1 then upd (upd D.1 q (D.1 m)) m (D.1 q) p else -9
    by_cases c : p = q
    · have c2 : ¬ p = m := fun z => u (z.symm.trans c)
      rw [upd_n c2, c, upd_s, upd_s, if_pos hq]
      exact sy_at s k2 hm
    · rw [upd_n c]
      by_cases c2 : p = m
      · rw [c2, upd_s, upd_s, if_pos hm]
        exact sy_at s k2 hq
      · rw [upd_n c2, upd_n c2, upd_n c]
        exact s.1 p hp
  · rw [upd_n (by omega), upd_n (by omega)]
    exact s.2 p hp
theorem sy_nop (s : zSy C D V) (k2 : C.2.1 ≤ 6) (hm : m < C.2.1) (e : D.1 m = v) : zSy C D (upd V m v) := by
  rw [← e, ← sy_at s k2 hm, upd_self]
  exact s
theorem sy_nopl (s : zSy C D V) (hm : m < C.2.1) (e : D.2.1 m = v) : zSy C D (upd V (6 + m) v) := by
  rw [← e, ← s.2 m hm, upd_self]
  exact s
end SY
section STIR
variable {r : zE} {C : zCs} {d : Nat} {M : Nat → zDk} {K : Nat → Option (Nat × (Nat → zDk))} {W Tx : Nat → Option (List Int32)} {Ga Va : zA} {n : Nat} {h : zH} {e m q j : Nat} {x : Int32} {D0 : zDk}
theorem s_289 (k2 : C.2.1 ≤ 6) (hm : m < C.2.1) (hq : q < C.2.1) (e6 : e < 60) (he : d < e) (M0 : M 0 = D0) {l8 : Int32} (sy : zSy C (M d) Va) (sx : zSx r C d M K W Tx Ga Va n h) : zStR r C K W Tx Ga n e D0  (zev r i_L_stir 289 [some (.ref (r.1 + 0)), some (.ref (r.1 + 49)), some (.ref (r.1 + 50)), some (.int x), some (.int (nI m)), some (.int (nI q)), some (.int (nI j)), some (.int 1), some (.int (l8)), none] [] h) := by
  obtain ⟨ta, tu, tl, st⟩ := sx
  obtain ⟨a, ha, ea⟩ := w_low r h (x >>> ((14 : Int32) &&& 31)) (m := 9) (by decide) (by decide)
  have e9 : (9 : Int32) = nI 9 := rfl
  have i6 : (6 : Int32) + nI q = nI (6 + q) := by rw [show (6 : Int32) = nI 6 from rfl, nI_add]
  have i1 : (1 : Int32) + nI a = nI (1 + a) := by rw [show (1 : Int32) = nI 1 from rfl, nI_add]
  have g1 := st_v (j := 6 + q) (by omega) st
  obtain ⟨h2, s2, st2⟩ := st_sv (j := 6 + q) (by omega) (nI (1 + a)) st
  have sq := sy.2 q hq
  rw [E_L_stir_289, e9, ea, zcI_some, i6, g1, Option.bind_some, i1, s2, Option.bind_some, if_neg i01, if_pos (st_ob st2)]
  by_cases c : (M d).2.1 q = nI (1 + a)
  · rw [ck_line_no hq (by omega) (by omega) c st2, zcI_some, if_pos (sq.trans c), E_L_stir_347, if_pos rfl]
    exact ⟨d, M, _, h2, by omega, M0, rfl, sy_nopl sy hq c, sx_of st2⟩
  · obtain ⟨h3, e3, st3⟩ := ck_line hq (x := 1 + a) (by omega) (by omega) c (by omega) st2
    rw [e3, zcI_some, if_neg (fun z => c (sq.symm.trans z)), E_L_stir_347, if_pos sq.symm]
    exact ⟨d + 1, _, _, h3, by omega, by rw [va_ne (by omega)]; exact M0, rfl, by rw [va_same]; exact sy_l sy hq, sx_of st3⟩
theorem s_289_1 (k2 : C.2.1 ≤ 6) (hm : m < C.2.1) (hq : q < C.2.1) (e6 : e < 60) (he : d < e) (M0 : M 0 = D0) (sy : zSy C (M d) Va) (sx : zSx r C d M K W Tx Ga Va n h) : zStR r C K W Tx Ga n e D0  (zev r i_L_stir 289 [some (.ref (r.1 + 0)), some (.ref (r.1 + 49)), some (.ref (r.1 + 50)), some (.int x), some (.int (nI m)), some (.int (nI q)), some (.int (nI j)), some (.int 1), none, none] [] h) := by
  rw [E_L_stir_289_1 .., ← E_L_stir_289 (l8 := 0) ..]
  exact s_289 k2 hm hq e6 he M0 sy sx
theorem s_289a (k2 : C.2.1 ≤ 6) (hm : m < C.2.1) (hq : q < C.2.1) (e6 : e < 60) (he : d < e) (M0 : M 0 = D0) {l8 l9 : Int32} (sy : zSy C (M d) Va) (sx : zSx r C d M K W Tx Ga Va n h) : zStR r C K W Tx Ga n e D0  (zev r i_L_stir 289 [some (.ref (r.1 + 0)), some (.ref (r.1 + 49)), some (.ref (r.1 + 50)), some (.int x), some (.int (nI m)), some (.int (nI q)), some (.int (nI j)), some (.int 1), some (.int (l8)), some (.int (l9))] [] h) := by
  rw [E_L_stir_289a .., ← E_L_stir_289 (l8 := 0) ..]
  exact s_289 k2 hm hq e6 he M0 sy sx
theorem s_234 (k2 : C.2.1 ≤ 6) (hm : m < C.2.1) (hq : q < C.2.1) (e6 : e < 60) (he : d + 1 < e) (M0 : M 0 = D0) {l8 l9 : Int32} (ok : zVI C (M d).1) (sy : zSy C (M d) Va) (sx : zSx r C d M K W Tx Ga Va n h) : zStR r C K W Tx Ga n e D0  (zev r i_L_stir 234 [some (.ref (r.1 + 0)), some (.ref (r.1 + 49)), some (.ref (r.1 + 50)), some (.int x), some (.int (nI m)), some (.int (nI q)), some (.int (nI j)), some (.int 1), none, none] [] h) := by
  obtain ⟨ta, tu, tl, st⟩ := sx
  have sq := sy_at sy k2 hq
  obtain ⟨h2, s2, st2⟩ := st_sv (j := q) (by omega) (-9) st
  rw [E_L_stir_234]
  by_cases c : ((x >>> ((11 : Int32) &&& 31)) &&& (7 : Int32)) = 0
  · rw [if_pos c, st_v (by omega) st, Option.bind_some, s2, Option.bind_some, if_neg i01, if_pos (st_ob st2)]
    by_cases hh : (M d).1 q = -9
    · rw [ck_down_no hq hh st2, zcI_some, if_pos (by rw [sq, hh]; decide), E_L_stir_279, if_pos rfl]
      exact s_289 k2 hm hq e6 (by omega) M0 (sy_nop sy k2 hq hh) (sx_of st2)
    · obtain ⟨h3, e3, st3⟩ := ck_down hq hh (by omega) st2
      obtain ⟨a, ha, ea⟩ := (ok.1 q hq).resolve_left hh
      rw [e3, zcI_some, if_neg (by rw [sq, ea]; exact nI_pos (by have := st_k st; have := this.1; omega)), E_L_stir_279, if_pos sq.symm]
      exact s_289 k2 hm hq e6 (by omega) (by rw [va_ne (by omega)]; exact M0) (by rw [va_same]; exact sy_h sy k2 hq) (sx_of st3)
  · rw [if_neg c]
    exact s_289_1 k2 hm hq e6 (by omega) M0 sy (sx_of st)
theorem s_234a (k2 : C.2.1 ≤ 6) (hm : m < C.2.1) (hq : q < C.2.1) (e6 : e < 60) (he : d + 1 < e) (M0 : M 0 = D0) {l8 l9 : Int32} (ok : zVI C (M d).1) (sy : zSy C (M d) Va) (sx : zSx r C d M K W Tx Ga Va n h) : zStR r C K W Tx Ga n e D0  (zev r i_L_stir 234 [some (.ref (r.1 + 0)), some (.ref (r.1 + 49)), some (.ref (r.1 + 50)), some (.int x), some (.int (nI m)), some (.int (nI q)), some (.int (nI j)), some (.int 1), some (.int (l8)), none] [] h) := by
  obtain ⟨ta, tu, tl, st⟩ := sx
  have sq := sy_at sy k2 hq
  obtain ⟨h2, s2, st2⟩ := st_sv (j := q) (by omega) (-9) st
  rw [E_L_stir_234a]
  by_cases c : ((x >>> ((11 : Int32) &&& 31)) &&& (7 : Int32)) = 0
  · rw [if_pos c, st_v (by omega) st, Option.bind_some, s2, Option.bind_some, if_neg i01, if_pos (st_ob st2)]
    by_cases hh : (M d).1 q = -9
    · rw [ck_down_no hq hh st2, zcI_some, if_pos (by rw [sq, hh]; decide), E_L_stir_279, if_pos rfl]
      exact s_289 k2 hm hq e6 (by omega) M0 (sy_nop sy k2 hq hh) (sx_of st2)
    · obtain ⟨h3, e3, st3⟩ := ck_down hq hh (by omega) st2
      obtain ⟨a, ha, ea⟩ := (ok.1 q hq).resolve_left hh
      rw [e3, zcI_some, if_neg (by rw [sq, ea]; exact nI_pos (by have := st_k st; have := this.1; omega)), E_L_stir_279, if_pos sq.symm]
      exact s_289 k2 hm hq e6 (by omega) (by rw [va_ne (by omega)]; exact M0) (by rw [va_same]; exact sy_h sy k2 hq) (sx_of st3)
  · rw [if_neg c]
    exact s_289 k2 hm hq e6 (by omega) M0 sy (sx_of st)
theorem s_234aa (k2 : C.2.1 ≤ 6) (hm : m < C.2.1) (hq : q < C.2.1) (e6 : e < 60) (he : d + 1 < e) (M0 : M 0 = D0) {l8 l9 : Int32} (ok : zVI C (M d).1) (sy : zSy C (M d) Va) (sx : zSx r C d M K W Tx Ga Va n h) : zStR r C K W Tx Ga n e D0  (zev r i_L_stir 234 [some (.ref (r.1 + 0)), some (.ref (r.1 + 49)), some (.ref (r.1 + 50)), some (.int x), some (.int (nI m)), some (.int (nI q)), some (.int (nI j)), some (.int 1), some (.int (l8)), some (.int (l9))] [] h) := by
  obtain ⟨ta, tu, tl, st⟩ := sx
  have sq := sy_at sy k2 hq
  obtain ⟨h2, s2, st2⟩ := st_sv (j := q) (by omega) (-9) st
  rw [E_L_stir_234aa]
  by_cases c : ((x >>> ((11 : Int32) &&& 31)) &&& (7 : Int32)) = 0
  · rw [if_pos c, st_v (by omega) st, Option.bind_some, s2, Option.bind_some, if_neg i01, if_pos (st_ob st2)]
    by_cases hh : (M d).1 q = -9
    · rw [ck_down_no hq hh st2, zcI_some, if_pos (by rw [sq, hh]; decide), E_L_stir_279a, if_pos rfl]
      exact s_289a k2 hm hq e6 (by omega) M0 (sy_nop sy k2 hq hh) (sx_of st2)
    · obtain ⟨h3, e3, st3⟩ := ck_down hq hh (by omega) st2
      obtain ⟨a, ha, ea⟩ := (ok.1 q hq).resolve_left hh
      rw [e3, zcI_some, if_neg (by rw [sq, ea]; exact nI_pos (by have := st_k st; have := this.1; omega)), E_L_stir_279a, if_pos sq.symm]
      exact s_289a k2 hm hq e6 (by omega) (by rw [va_ne (by omega)]; exact M0) (by rw [va_same]; exact sy_h sy k2 hq) (sx_of st3)
  · rw [if_neg c]
    exact s_289a k2 hm hq e6 (by omega) M0 sy (sx_of st)
theorem s_143 (k2 : C.2.1 ≤ 6) (hm : m < C.2.1) (hq : q < C.2.1) (e6 : e < 60) (he : d + 2 < e) (M0 : M 0 = D0) {l8 s0 : Int32} (ok : zVI C (M d).1) (sy : zSy C (M d) Va) (hs : (s0 = 0 ∧ (m = q ∨ (m ≠ q ∧ (M d).1 m = -9 ∧ (M d).1 q = -9))) ∨ (s0 = 1 ∧ m ≠ q ∧ ¬ ((M d).1 m = -9 ∧ (M d).1 q = -9))) (sx : zSx r C d M K W Tx Ga Va n h) : zStR r C K W Tx Ga n e D0  (zev r i_L_stir 143 [some (.ref (r.1 + 0)), some (.ref (r.1 + 49)), some (.ref (r.1 + 50)), some (.int x), some (.int (nI m)), some (.int (nI q)), some (.int (nI j)), some (.int 1), none, none] [.int s0] h) := by
  obtain ⟨ta, tu, tl, st⟩ := sx
  have sm := sy_at sy k2 hm
  have sq := sy_at sy k2 hq
  rw [E_L_stir_143, st_v (by omega) st, Option.bind_some]
  rcases hs with ⟨z, hz⟩ | ⟨z, u, hz⟩
  · obtain ⟨h2, s2, st2⟩ := st_sv (j := m) (by omega) (Va m) st
    rw [upd_self] at st2
    obtain ⟨h3, s3, st3⟩ := st_sv (j := q) (by omega) (Va q) st2
    rw [upd_self] at st3
    rw [if_pos z, Option.bind_some, E_L_stir_170, s2, Option.bind_some, if_pos z, st_v (by omega) st2, Option.bind_some, E_L_stir_188, s3, Option.bind_some, if_neg i01, if_pos (st_ob st3)]
    rcases hz with hz | ⟨u, z1, z2⟩
    · subst hz
      rw [ck_change_same hm st3, zcI_some, if_pos rfl, E_L_stir_224, if_pos rfl]
      exact s_234aa k2 hm hq e6 (by omega) M0 ok sy (sx_of st3)
    · have un : ¬ nI m = nI q := fun y => u ((nI_eq (by omega) (by omega)).mp y)
      rw [ck_change_no hm hq u z1 z2 st3, zcI_some, if_neg un, if_pos z, E_L_stir_224, if_pos rfl]
      exact s_234aa k2 hm hq e6 (by omega) M0 ok sy (sx_of st3)
  · have zn : ¬ s0 = 0 := by rw [z]; decide
    have un : ¬ nI m = nI q := fun y => u ((nI_eq (by omega) (by omega)).mp y)
    obtain ⟨h2, s2, st2⟩ := st_sv (j := m) (by omega) (Va q) st
    obtain ⟨h3, s3, st3⟩ := st_sv (j := q) (by omega) (Va m) st2
    obtain ⟨h4, e4, st4⟩ := ck_change hm hq u hz (by omega) st3
    have vi := (st_ok st4).1
    rw [va_same] at vi
    rw [if_neg zn, st_v (by omega) st, Option.bind_some, E_L_stir_170, s2, Option.bind_some, if_neg zn, E_L_stir_188, s3, Option.bind_some, if_neg i01, if_pos (st_ob st3), e4, zcI_some, if_neg un, if_neg zn, E_L_stir_224, if_pos rfl]
    exact s_234aa k2 hm hq e6 (by omega) (by rw [va_ne (by omega)]; exact M0) (by rw [va_same]; exact vi) (by rw [va_same]; exact sy_sw sy k2 hm hq u) (sx_of st4)
theorem s_108 (k2 : C.2.1 ≤ 6) (hm : m < C.2.1) (hq : q < C.2.1) (e6 : e < 60) (he : d + 2 < e) (M0 : M 0 = D0) {l8 : Int32} (ok : zVI C (M d).1) (sy : zSy C (M d) Va) (sx : zSx r C d M K W Tx Ga Va n h) : zStR r C K W Tx Ga n e D0  (zev r i_L_stir 108 [some (.ref (r.1 + 0)), some (.ref (r.1 + 49)), some (.ref (r.1 + 50)), some (.int x), some (.int (nI m)), some (.int (nI q)), some (.int (nI j)), some (.int 1), none, none] [] h) := by
  obtain ⟨ta, tu, tl, st⟩ := sx
  have k := st_k st
  have k1 := k.1
  have sm := sy_at sy k2 hm
  have sq := sy_at sy k2 hq
  have neg : ∀ p, p < C.2.1 → ¬ (M d).1 p = -9 → ¬ (M d).1 p < 0 := fun p hp z => by
    obtain ⟨a, ha, ea⟩ := (ok.1 p hp).resolve_left z
    rw [ea]
    exact nI_pos (by omega)
  rw [E_L_stir_108]
  by_cases c : ((x >>> ((10 : Int32) &&& 31)) &&& (1 : Int32)) = 0
  · rw [if_pos c]
    by_cases u : m = q
    · rw [if_pos (by rw [u])]
      exact s_143 (l8 := 0) k2 hm hq e6 he M0 ok sy (.inl ⟨rfl, .inl u⟩) (sx_of st)
    · have un : ¬ nI m = nI q := fun y => u ((nI_eq (by omega) (by omega)).mp y)
      rw [if_neg un, st_v (by omega) st, Option.bind_some, sm]
      by_cases z1 : (M d).1 m = -9
      · rw [if_pos (by rw [z1]; decide), st_v (by omega) st, Option.bind_some, sq]
        by_cases z2 : (M d).1 q = -9
        · rw [if_pos (by rw [z2]; decide)]
          exact s_143 (l8 := 0) k2 hm hq e6 he M0 ok sy (.inl ⟨rfl, .inr ⟨u, z1, z2⟩⟩) (sx_of st)
        · rw [if_neg (neg q hq z2)]
          exact s_143 (l8 := 0) k2 hm hq e6 he M0 ok sy (.inr ⟨rfl, u, fun w => z2 w.2⟩) (sx_of st)
      · rw [if_neg (neg m hm z1)]
        exact s_143 (l8 := 0) k2 hm hq e6 he M0 ok sy (.inr ⟨rfl, u, fun w => z1 w.1⟩) (sx_of st)
  · rw [if_neg c]
    exact s_234 (l8 := 0) (l9 := 0) k2 hm hq e6 (by omega) M0 ok sy (sx_of st)
theorem s_143a (k2 : C.2.1 ≤ 6) (hm : m < C.2.1) (hq : q < C.2.1) (e6 : e < 60) (he : d + 2 < e) (M0 : M 0 = D0) {l8 s0 : Int32} (ok : zVI C (M d).1) (sy : zSy C (M d) Va) (hs : (s0 = 0 ∧ (m = q ∨ (m ≠ q ∧ (M d).1 m = -9 ∧ (M d).1 q = -9))) ∨ (s0 = 1 ∧ m ≠ q ∧ ¬ ((M d).1 m = -9 ∧ (M d).1 q = -9))) (sx : zSx r C d M K W Tx Ga Va n h) : zStR r C K W Tx Ga n e D0  (zev r i_L_stir 143 [some (.ref (r.1 + 0)), some (.ref (r.1 + 49)), some (.ref (r.1 + 50)), some (.int x), some (.int (nI m)), some (.int (nI q)), some (.int (nI j)), some (.int 1), some (.int (l8)), none] [.int s0] h) := by
  obtain ⟨ta, tu, tl, st⟩ := sx
  have sm := sy_at sy k2 hm
  have sq := sy_at sy k2 hq
  rw [E_L_stir_143a, st_v (by omega) st, Option.bind_some]
  rcases hs with ⟨z, hz⟩ | ⟨z, u, hz⟩
  · obtain ⟨h2, s2, st2⟩ := st_sv (j := m) (by omega) (Va m) st
    rw [upd_self] at st2
    obtain ⟨h3, s3, st3⟩ := st_sv (j := q) (by omega) (Va q) st2
    rw [upd_self] at st3
    rw [if_pos z, Option.bind_some, E_L_stir_170, s2, Option.bind_some, if_pos z, st_v (by omega) st2, Option.bind_some, E_L_stir_188, s3, Option.bind_some, if_neg i01, if_pos (st_ob st3)]
    rcases hz with hz | ⟨u, z1, z2⟩
    · subst hz
      rw [ck_change_same hm st3, zcI_some, if_pos rfl, E_L_stir_224, if_pos rfl]
      exact s_234aa k2 hm hq e6 (by omega) M0 ok sy (sx_of st3)
    · have un : ¬ nI m = nI q := fun y => u ((nI_eq (by omega) (by omega)).mp y)
      rw [ck_change_no hm hq u z1 z2 st3, zcI_some, if_neg un, if_pos z, E_L_stir_224, if_pos rfl]
      exact s_234aa k2 hm hq e6 (by omega) M0 ok sy (sx_of st3)
  · have zn : ¬ s0 = 0 := by rw [z]; decide
    have un : ¬ nI m = nI q := fun y => u ((nI_eq (by omega) (by omega)).mp y)
    obtain ⟨h2, s2, st2⟩ := st_sv (j := m) (by omega) (Va q) st
    obtain ⟨h3, s3, st3⟩ := st_sv (j := q) (by omega) (Va m) st2
    obtain ⟨h4, e4, st4⟩ := ck_change hm hq u hz (by omega) st3
    have vi := (st_ok st4).1
    rw [va_same] at vi
    rw [if_neg zn, st_v (by omega) st, Option.bind_some, E_L_stir_170, s2, Option.bind_some, if_neg zn, E_L_stir_188, s3, Option.bind_some, if_neg i01, if_pos (st_ob st3), e4, zcI_some, if_neg un, if_neg zn, E_L_stir_224, if_pos rfl]
    exact s_234aa k2 hm hq e6 (by omega) (by rw [va_ne (by omega)]; exact M0) (by rw [va_same]; exact vi) (by rw [va_same]; exact sy_sw sy k2 hm hq u) (sx_of st4)
theorem s_108a (k2 : C.2.1 ≤ 6) (hm : m < C.2.1) (hq : q < C.2.1) (e6 : e < 60) (he : d + 2 < e) (M0 : M 0 = D0) {l8 : Int32} (ok : zVI C (M d).1) (sy : zSy C (M d) Va) (sx : zSx r C d M K W Tx Ga Va n h) : zStR r C K W Tx Ga n e D0  (zev r i_L_stir 108 [some (.ref (r.1 + 0)), some (.ref (r.1 + 49)), some (.ref (r.1 + 50)), some (.int x), some (.int (nI m)), some (.int (nI q)), some (.int (nI j)), some (.int 1), some (.int (l8)), none] [] h) := by
  obtain ⟨ta, tu, tl, st⟩ := sx
  have k := st_k st
  have k1 := k.1
  have sm := sy_at sy k2 hm
  have sq := sy_at sy k2 hq
  have neg : ∀ p, p < C.2.1 → ¬ (M d).1 p = -9 → ¬ (M d).1 p < 0 := fun p hp z => by
    obtain ⟨a, ha, ea⟩ := (ok.1 p hp).resolve_left z
    rw [ea]
    exact nI_pos (by omega)
  rw [E_L_stir_108a]
  by_cases c : ((x >>> ((10 : Int32) &&& 31)) &&& (1 : Int32)) = 0
  · rw [if_pos c]
    by_cases u : m = q
    · rw [if_pos (by rw [u])]
      exact s_143a k2 hm hq e6 he M0 ok sy (.inl ⟨rfl, .inl u⟩) (sx_of st)
    · have un : ¬ nI m = nI q := fun y => u ((nI_eq (by omega) (by omega)).mp y)
      rw [if_neg un, st_v (by omega) st, Option.bind_some, sm]
      by_cases z1 : (M d).1 m = -9
      · rw [if_pos (by rw [z1]; decide), st_v (by omega) st, Option.bind_some, sq]
        by_cases z2 : (M d).1 q = -9
        · rw [if_pos (by rw [z2]; decide)]
          exact s_143a k2 hm hq e6 he M0 ok sy (.inl ⟨rfl, .inr ⟨u, z1, z2⟩⟩) (sx_of st)
        · rw [if_neg (neg q hq z2)]
          exact s_143a k2 hm hq e6 he M0 ok sy (.inr ⟨rfl, u, fun w => z2 w.2⟩) (sx_of st)
      · rw [if_neg (neg m hm z1)]
        exact s_143a k2 hm hq e6 he M0 ok sy (.inr ⟨rfl, u, fun w => z1 w.1⟩) (sx_of st)
  · rw [if_neg c]
    exact s_234a (l9 := 0) k2 hm hq e6 (by omega) M0 ok sy (sx_of st)
/-- a stirring: at most four deeds -/
theorem w_stir (e6 : e < 60) (he : d + 4 ≤ e) (m0 : 0 < C.2.1) (g0 : Ga 0 = nI C.1) (g1 : Ga 1 = nI C.2.1) (M0 : M 0 = D0) (x : Int32) (sy : zSy C (M d) Va) (sx : zSx r C d M K W Tx Ga Va n h) : zStR r C K W Tx Ga n e D0 (zev r i_L_stir 0 [some (.ref (r.1 + 0)), some (.ref (r.1 + 49)), some (.ref (r.1 + 50)), some (.int x), none, none, none, none, none, none] [] h) := by
  obtain ⟨ta, tu, tl, st⟩ := sx
  have k := st_k st
  have k1 := k.1
  have k2 := k.2.1
  have k3 := k.2.2.1
  have ok := st_ok st
  have r1 : zaI r h (r.1 + 49) 1 = some (nI C.2.1) := (st_g (j := 1) (by decide) st).trans (by rw [g1])
  have r0 : zaI r h (r.1 + 49) 0 = some (nI C.1) := (st_g (j := 0) (by decide) st).trans (by rw [g0])
  obtain ⟨m, hm, em⟩ := w_low r h x (m := C.2.1) m0 (by omega)
  obtain ⟨q, hq, eq⟩ := w_low r h (x >>> ((3 : Int32) &&& 31)) (m := C.2.1) m0 (by omega)
  obtain ⟨j, hj, ej⟩ := w_low r h (x >>> ((6 : Int32) &&& 31)) (m := C.1) (by omega) (by omega)
  have sm := sy_at sy k2 hm
  rw [E_L_stir_0, r1, Option.bind_some, em, zcI_some, r1, Option.bind_some, eq, zcI_some, r0, Option.bind_some, ej, zcI_some]
  by_cases c : ((x >>> ((9 : Int32) &&& 31)) &&& (1 : Int32)) = 0
  · obtain ⟨R, eR, hR⟩ := w_who (nI j) st
    rw [if_pos c, eR, zcI_some]
    rcases hR with ⟨y, hy⟩ | ⟨p, hp, y, hy⟩
    · have fr : ∀ p, p < C.2.1 → ¬ (M d).1 p = nI j := fun p hp z => hy p (by omega) ((sy_at sy k2 hp).trans z)
      obtain ⟨h2, s2, st2⟩ := st_sv (j := m) (by omega) (nI j) st
      obtain ⟨h3, e3, st3⟩ := ck_hang hm hj fr (by omega) st2
      have vi := (st_ok st3).1
      rw [va_same] at vi
      rw [if_pos (by rw [y]; decide), E_L_stir_58, if_neg i01, E_L_stir_77, s2, Option.bind_some, if_pos (st_ob st2), e3, zcI_some, if_neg i01, E_L_stir_98, if_pos rfl]
      exact s_108a k2 hm hq e6 (by omega) (by rw [va_ne (by omega)]; exact M0) (by rw [va_same]; exact vi) (by rw [va_same]; exact sy_h sy k2 hm) (sx_of st3)
    · have pm : p < C.2.1 := by
        apply Classical.byContradiction
        intro z
        have := sy.1 p hp
        rw [if_neg z, hy] at this
        exact nI_n9 (by omega) this
      obtain ⟨h2, s2, st2⟩ := st_sv (j := m) (by omega) (Va m) st
      rw [upd_self] at st2
      rw [if_neg (by rw [y]; exact nI_pos (by omega)), E_L_stir_58, if_pos rfl, st_v (by omega) st, Option.bind_some, E_L_stir_77, s2, Option.bind_some, if_pos (st_ob st2), ck_hang_no hm hj pm ((sy_at sy k2 pm).symm.trans hy) st2, zcI_some, if_pos rfl, E_L_stir_98, if_pos rfl]
      exact s_108a k2 hm hq e6 (by omega) M0 ok.1 sy (sx_of st2)
  · rw [if_neg c]
    exact s_108 (l8 := 0) k2 hm hq e6 (by omega) M0 ok.1 sy (sx_of st)
end STIR
