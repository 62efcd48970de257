/-! NIGHT, LOTS: both alike -/
section NIGHT
variable {r : zE} {c0 c1 c2 : Nat} {I : Nat → Int32} {J : Nat → Int64} {Q : Nat → Nat → Int32} {N A : zBr} {U : Nat → Int32} {V : Nat → Int64} {X : Nat → Nat → Int32} {S : zSs} {t : zH} {C : zCs} {c n d : Nat}
/-- a night's step: by how much more, how tired -/
def sNt (C : zCs) (H L : zA) (w : Int32) (s : Int32 × zA) (m : Nat) : Int32 × zA := (s.1 + ((if s.2 m + sWo C H L m w (-9) < 99 then s.2 m + sWo C H L m w (-9) else 99) - s.2 m), upd s.2 m (if s.2 m + sWo C H L m w (-9) < 99 then s.2 m + sWo C H L m w (-9) else 99))
theorem b_tire {x : Nat} {F : zBr → zH} {B : zBr} (b : zBx r x c C F) (k : zCk C) (E : zEk r) (l : zLk C B.2.2.1) (g : zCG C B.1 B.2.1) (w : Int32) : zev r i_X0_tire 0 [some (.ref x), some (.int w), none, none, none] [] (F B) = some (some (.int (zfd (sNt C B.1 B.2.2.1 w) 0 C.2.1 (0, B.2.2.2)).1), F (B.1, B.2.1, B.2.2.1, (zfd (sNt C B.1 B.2.2.1 w) 0 C.2.1 (0, B.2.2.2)).2)) := by
  have k2 := k.2.1
  rw [E_X0_tire_0]
  refine zloop (fun j (s : Int32 × zA) => zev r i_X0_tire 4 [some (.ref x), some (.int w), some (.int s.1), some (.int (nI j)), none] [] (F (B.1, B.2.1, B.2.2.1, s.2))) (fun s => some (some (.int s.1), F (B.1, B.2.1, B.2.2.1, s.2))) _ C.2.1 (fun j s hj => ?_) (fun s => ?_) (0, B.2.2.2)
  · refine (E_X0_tire_4 ..).trans ?_
    obtain ⟨v, o, g0, g1, g2, g3, g4, r1, r2, r3, r4, w1, w2, w3, w4, -⟩ := b (B.1, B.2.1, B.2.2.1, s.2)
    have e := b_wak b k E (B := (B.1, B.2.1, B.2.2.1, s.2)) l g hj w
    have v2 := fun f => b (B.1, B.2.1, B.2.2.1, f)
    simp only [g0, v.2.2.1, Option.bind_some, if_pos (nI_lt6 k hj), g4, r4 j (show j < 6 by omega), o, if_true, e, zcI_some, w4 j _ (show j < 6 by omega), (v2 _).2.2.2.2.2.2.1, (v2 _).2.2.2.2.2.2.2.2.2.2.1 j (show j < 6 by omega), upd_s, nI_1]
    rfl
  · refine (E_X0_tire_4 ..).trans ?_
    obtain ⟨v, o, g0, -⟩ := b (B.1, B.2.1, B.2.2.1, s.2)
    simp only [g0, v.2.2.1, Option.bind_some, if_neg (nI_nlt6 k)]
theorem lt99 (z : Int32) : (if 99 < z then (99 : Int32) else z) = (if z < 99 then z else 99) := by
  by_cases h : 99 < z
  · rw [if_pos h, if_neg (Int32.lt_asymm h)]
  · rw [if_neg h]
    by_cases h2 : z < 99
    · rw [if_pos h2]
    · rw [if_neg h2]
      exact Int32.le_antisymm (Int32.not_lt.mp h) (Int32.not_lt.mp h2)
theorem m_pass (mv : zMv C U X) (k : zCk C) (no : zNo C N X) (hd : X 0 0 = nI d) (h6 : d < 60) (w : Int32) : ∃ f : zA, (∀ c0 c1 c2 I J Q N' A S t, ∃ S', zev r i_X6_pass 0 [some (.ref (r.1 + 49)), some (.int w), none, none, none] [] (zmk r c0 c1 c2 I J Q (N') A U V X S t) = some (some (.int (zfd (sNt C N.1 N.2.2.1 w) 0 C.2.1 (0, N.2.2.2)).1), (zmk r c0 c1 c2 I J Q (N') A U V (va_up X 0 f) (S') t))) ∧ (∀ m, m < C.2.1 → f (13 + m) = (zfd (sNt C N.1 N.2.2.1 w) 0 C.2.1 (0, N.2.2.2)).2 m) ∧ ∀ i, ¬ (13 ≤ i ∧ i < 19) → f i = zKp (X 0) d i := by
  have k2 := k.2.1
  have mvf : ∀ f, zMv C U (va_up X 0 f) := fun f => zMv_c mv rfl rfl rfl rfl rfl rfl
  have nh : ∀ S m, m < C.2.1 → (zNw (va_up X 0 (zKp (X 0) d)) S).1 m = N.1 m := fun S m hm => by
    show (if m < 6 then va_up X 0 (zKp (X 0) d) 0 (1 + m) else _) = _
    rw [if_pos (by omega), va_same, kp_c (by omega) (by omega), (no.2.2 m hm).1]
  have nl : ∀ S m, m < C.2.1 → (zNw (va_up X 0 (zKp (X 0) d)) S).2.1 m = N.2.2.1 m := fun S m hm => by
    show (if m < 6 then va_up X 0 (zKp (X 0) d) 0 (7 + m) else _) = _
    rw [if_pos (by omega), va_same, kp_c (by omega) (by omega), (no.2.2 m hm).2.1]
  have nv : ∀ S, zVd C (zNw (va_up X 0 (zKp (X 0) d)) S).1 := fun S => vd_c (nh S) (cg_vd no.1)
  have key : ∀ c0 c1 c2 I J Q N' A S t, _ := fun c0 c1 c2 I J Q N' A S t =>
    zloopP (fun j (s : Int32 × zA) => s.1 = (zfd (sNt C N.1 N.2.2.1 w) 0 j (0, N.2.2.2)).1 ∧ (∀ m, m < C.2.1 → s.2 (13 + m) = (zfd (sNt C N.1 N.2.2.1 w) 0 j (0, N.2.2.2)).2 m) ∧ ∀ i, ¬ (13 ≤ i ∧ i < 19) → s.2 i = zKp (X 0) d i)
      (fun j (s : Int32 × zA) => zev r i_X6_pass 12 [some (.ref (r.1 + 49)), some (.int w), some (.int s.1), some (.int (nI j)), none] [] (zmk r c0 c1 c2 I J Q (N') A U V (va_up X 0 s.2) (zNw (va_up X 0 (zKp (X 0) d)) S) t))
      (fun s => some (some (.int s.1), (zmk r c0 c1 c2 I J Q (N') A U V (va_up X 0 s.2) (zNw (va_up X 0 (zKp (X 0) d)) S) t)))
      (fun (s : Int32 × zA) m => (s.1 + ((if s.2 (13 + m) + sWo C N.1 N.2.2.1 m w (-9) < 99 then s.2 (13 + m) + sWo C N.1 N.2.2.1 m w (-9) else 99) - s.2 (13 + m)), upd s.2 (13 + m) (if s.2 (13 + m) + sWo C N.1 N.2.2.1 m w (-9) < 99 then s.2 (13 + m) + sWo C N.1 N.2.2.1 m w (-9) else 99))) C.2.1
      (fun j s hj p => by
        have e13 : (13 : Int32) + nI j = nI (13 + j) := nI_add 13 j
        refine ⟨(E_X6_pass_12 ..).trans ?_, ?_⟩
        · simp only [mo_49, mg_49_0, mg_49_1, mg_49_2, mg_49_3, mg_49_4, mg_49_5, mg_49_6, mg_49_7, mg_49_8, mg_49_9, mg_49_10, mg_49_11, mg_49_12, mg_49_13, mg_49_14, mg_49_15, mg_49_16, mg_49_17, mg_49_18, mg_49_19, mg_49_20, mg_49_21, mg_49_22, mg_49_23, mg_49_24, mg_49_25, Option.bind_some, if_pos (m_lt mv k hj), e13, ma_50 (show 13 + j < 4396 by omega), va_same, if_true, m_woken (mvf _) k hj (nv S j hj), sWo_c hj (nh S) (nl S), zcI_some, E_X6_pass_54, mw_50 (show 13 + j < 4396 by omega), bx_uu, nI_1]
          rw [← lt99]
          split <;> rfl
        · obtain ⟨p1, p2, p3⟩ := p
          have pj := p2 j hj
          rw [zfd_succ, Nat.zero_add]
          refine ⟨?_, fun m hm => ?_, fun i hi => ?_⟩
          · show s.1 + _ = (zfd (sNt C N.1 N.2.2.1 w) 0 j (0, N.2.2.2)).1 + _
            rw [p1, pj]
          · show upd s.2 (13 + j) _ (13 + m) = upd (zfd (sNt C N.1 N.2.2.1 w) 0 j (0, N.2.2.2)).2 j _ m
            by_cases q : m = j
            · subst q; rw [upd_s, upd_s, pj]
            · rw [upd_n (by omega), upd_n q]; exact p2 m hm
          · exact (upd_n (by omega)).trans (p3 i hi)) (fun s p => by
        refine (E_X6_pass_12 ..).trans ?_
        simp only [mo_49, mg_49_0, mg_49_1, mg_49_2, mg_49_3, mg_49_4, mg_49_5, mg_49_6, mg_49_7, mg_49_8, mg_49_9, mg_49_10, mg_49_11, mg_49_12, mg_49_13, mg_49_14, mg_49_15, mg_49_16, mg_49_17, mg_49_18, mg_49_19, mg_49_20, mg_49_21, mg_49_22, mg_49_23, mg_49_24, mg_49_25, Option.bind_some, if_neg (m_nlt mv k)]) (0, zKp (X 0) d) ⟨rfl, fun m hm => (kp_c (by omega) (by omega)).trans ((no.2.2 m hm).2.2).symm, fun i _ => rfl⟩
  refine ⟨(zfd (fun (s : Int32 × zA) m => (s.1 + ((if s.2 (13 + m) + sWo C N.1 N.2.2.1 m w (-9) < 99 then s.2 (13 + m) + sWo C N.1 N.2.2.1 m w (-9) else 99) - s.2 (13 + m)), upd s.2 (13 + m) (if s.2 (13 + m) + sWo C N.1 N.2.2.1 m w (-9) < 99 then s.2 (13 + m) + sWo C N.1 N.2.2.1 m w (-9) else 99))) 0 C.2.1 (0, zKp (X 0) d)).2, fun c0 c1 c2 I J Q N' A S t => ⟨zNw (va_up X 0 (zKp (X 0) d)) S, ?_⟩, (key 0 0 0 (fun _ => 0) (fun _ => 0) (fun _ _ => 0) N N (fun _ => 0, fun _ => 0, fun _ => 0) []).2.2.1, (key 0 0 0 (fun _ => 0) (fun _ => 0) (fun _ _ => 0) N N (fun _ => 0, fun _ => 0, fun _ => 0) []).2.2.2⟩
  obtain ⟨h1, h2, -⟩ := key c0 c1 c2 I J Q N' A S t
  simp only [E_X6_pass_0, mo_49, mg_49_0, mg_49_1, mg_49_2, mg_49_3, mg_49_4, mg_49_5, mg_49_6, mg_49_7, mg_49_8, mg_49_9, mg_49_10, mg_49_11, mg_49_12, mg_49_13, mg_49_14, mg_49_15, mg_49_16, mg_49_17, mg_49_18, mg_49_19, mg_49_20, mg_49_21, mg_49_22, mg_49_23, mg_49_24, mg_49_25, if_true, m_keepp hd h6, zcV_some, m_now]
  refine h1.trans ?_
  rw [h2]
/-- one night, of the class and of the reference -/
theorem nightly (E : zEk r) (iv : zIv r C c I J Q N U V X t) (hd : I 2 = nI d) (d0 : X 0 0 = nI d) (h6 : d < 60) (w : Int32) : ∃ v I' Q' N' X', (∀ c2 A U V X S, zev r i_X5_sleptThrough 0 [some (.ref (r.1 + 0)), some (.int w), none] [] (zmk r c c c2 I J Q N A U V X S t) = some (some (.int v), (zmk r c c c2 (I') J (Q') (N') A U V X S t))) ∧ (∀ c0 c1 c2 I J Q N A S t, ∃ S', zev r i_X6_pass 0 [some (.ref (r.1 + 49)), some (.int w), none, none, none] [] (zmk r c0 c1 c2 I J Q N A U V X S t) = some (some (.int v), (zmk r c0 c1 c2 I J Q N A U V (X') (S') t))) ∧ zIv r C c I' J Q' N' U V X' t ∧ I' 2 = nI (d + 1) ∧ X' 0 0 = nI (d + 1) := by
  obtain ⟨k, hC, mv, _, _, _, no, ⟨d', hd', hp⟩, -⟩ := id iv
  have k2 := k.2.1
  have dd : d' = d := (nI_eq (by have := hp.1; omega) (by omega)).mp (hd'.symm.trans hd)
  subst dd
  obtain ⟨f, f1, f2, f3⟩ := m_pass (r := r) (V := V) mv k no d0 h6 w
  refine ⟨_, va_up I 2 (nI (d' + 1)), _, (N.1, N.2.1, N.2.2.1, (zfd (sNt C N.1 N.2.2.1 w) 0 C.2.1 (0, N.2.2.2)).2), va_up X 0 f, fun c2 A U V X S => ?_, fun c0 c1 c2 I J Q N A S t => f1 c0 c1 c2 I J Q N A S t, iv_deed' iv hp h6 (N.1, N.2.1, N.2.2.1, (zfd (sNt C N.1 N.2.2.1 w) 0 C.2.1 (0, N.2.2.2)).2) no.1 no.2.1 f (fun m hm => ?_) fun i hi => f3 i (by omega), va_same, ?_⟩
  · simp only [E_X5_sleptThrough_0, mo_0, mg_0_0, mg_0_1, mg_0_2, mg_0_3, mg_0_4, mg_0_5, mg_0_6, mg_0_7, mg_0_8, mg_0_9, mg_0_10, mg_0_11, mo_9, mo_19, Option.bind_some, if_true, b_tire (nBx hC) k E no.2.1 no.1, zcI_some, g_add hd h6, zcV_some]
  · obtain ⟨b1, b2, b3⟩ := no.2.2 m hm
    refine ⟨?_, ?_, f2 m hm⟩
    · rw [f3 _ (by omega), kp_c (by omega) (by omega), b1]
    · rw [f3 _ (by omega), kp_c (by omega) (by omega), b2]
  · rw [va_same, f3 0 (by omega), kp_0]
theorem men0 (k : zCk C) : nI C.2.1 = 0 ↔ C.2.1 = 0 := by
  have := k.2.1
  exact nI_eq (b := 0) (by omega) (by decide)
theorem lk_night (E : zEk r) (a : Int32) {h : zH} (st : zSt r n h) : zBoth r n n (zev r i_X5_night 0 [some (.ref (r.1 + 0)), some (.int a)] []) (zev r i_X6_night 0 [some (.ref (r.1 + 49)), some (.int a)] []) h := by
  obtain ⟨C, c, c2, I, J, Q, N, A, U, V, X, S, t, rfl, iv, t1, t2⟩ := st
  obtain ⟨k, hC, mv, _, _, _, no, ⟨d, hd, hp⟩, -⟩ := id iv
  have d6 := hp.1
  have d0 : X 0 0 = nI d := hp.2.1
  have g_room1 := @g_room1
  have ms0 : ∀ {c0 c1 : Nat} {I J Q N A S t}, zaI r (zmk r c0 c1 c2 I J Q N A U V X S t) (r.1 + 50) 0 = some (nI d) := fun {_ _ _ _ _ _ _ _ _} => (ma_50 (j := 0) (by decide)).trans (by rw [d0])
  rcases zhk_cases 3 (by decide) a with f | ⟨f, w, hw, rfl⟩
  · refine both (v := (-1)) (h1 := (zmk r c c c2 I J Q N A U V X S t)) (h2 := (zmk r c c c2 I J Q N A U V X S t)) ?_ ?_ (st_mk iv t1 t2)
    · simp only [E_X5_night_0, k_when, f, if_true, zcI_some]
    · simp only [E_X6_night_0, m_when, f, if_true, zcI_some]
  by_cases m0 : nI C.2.1 = 0
  · refine both (v := (-4)) (h1 := (zmk r c c c2 I J Q N A U V X S t)) (h2 := (zmk r c c c2 I J Q N A U V X S t)) ?_ ?_ (st_mk iv t1 t2)
    · simp only [E_X5_night_0, k_when, f, i01, if_false, mo_0, mg_0_0, mg_0_1, mg_0_2, mg_0_3, mg_0_4, mg_0_5, mg_0_6, mg_0_7, mg_0_8, mg_0_9, mg_0_10, mg_0_11, (hC ..).2.2.1, Option.bind_some, m0, if_true, zcI_some]
    · simp only [E_X6_night_0, m_when, f, i01, if_false, mo_49, mg_49_0, mg_49_1, mg_49_2, mg_49_3, mg_49_4, mg_49_5, mg_49_6, mg_49_7, mg_49_8, mg_49_9, mg_49_10, mg_49_11, mg_49_12, mg_49_13, mg_49_14, mg_49_15, mg_49_16, mg_49_17, mg_49_18, mg_49_19, mg_49_20, mg_49_21, mg_49_22, mg_49_23, mg_49_24, mg_49_25, mv.2.1, Option.bind_some, m0, if_true, zcI_some]
  by_cases z : d = 60
  · have z1 : nI d = 60 := (d60 d6).mpr z
    refine both (v := (-2)) (h1 := (zmk r c c c2 I J Q N A U V X S t)) (h2 := (zmk r c c c2 I J Q N A U V X S t)) ?_ ?_ (st_mk iv t1 t2)
    · simp only [E_X5_night_0, k_when, f, i01, if_false, mo_0, mg_0_0, mg_0_1, mg_0_2, mg_0_3, mg_0_4, mg_0_5, mg_0_6, mg_0_7, mg_0_8, mg_0_9, mg_0_10, mg_0_11, mo_19, (hC ..).2.2.1, Option.bind_some, m0, if_true, g_room1 hd d6, z, zcI_some]
    · simp only [E_X6_night_0, m_when, f, i01, if_false, mo_49, mg_49_0, mg_49_1, mg_49_2, mg_49_3, mg_49_4, mg_49_5, mg_49_6, mg_49_7, mg_49_8, mg_49_9, mg_49_10, mg_49_11, mg_49_12, mg_49_13, mg_49_14, mg_49_15, mg_49_16, mg_49_17, mg_49_18, mg_49_19, mg_49_20, mg_49_21, mg_49_22, mg_49_23, mg_49_24, mg_49_25, mv.2.1, Option.bind_some, m0, ms0, z1, if_true, zcI_some]
  have z1 : ¬ nI d = 60 := fun q => z ((d60 d6).mp q)
  obtain ⟨v, I', Q', N', X', e1, e2, iv2, -⟩ := nightly E iv hd d0 (by omega) (nI w)
  obtain ⟨S', e3⟩ := e2 c c c2 I' J Q' N' A S t
  refine both (v := v) (h1 := (zmk r c c c2 (I') J (Q') (N') A U V X S t)) (h2 := (zmk r c c c2 (I') J (Q') (N') A U V (X') (S') t)) ?_ ?_ (st_mk iv2 t1 t2)
  · simp only [E_X5_night_0, k_when, f, i01, if_false, mo_0, mg_0_0, mg_0_1, mg_0_2, mg_0_3, mg_0_4, mg_0_5, mg_0_6, mg_0_7, mg_0_8, mg_0_9, mg_0_10, mg_0_11, mo_19, (hC ..).2.2.1, Option.bind_some, m0, if_true, g_room1 hd d6, z, zcI_some, e1]
  · simp only [E_X6_night_0, m_when, f, i01, if_false, mo_49, mg_49_0, mg_49_1, mg_49_2, mg_49_3, mg_49_4, mg_49_5, mg_49_6, mg_49_7, mg_49_8, mg_49_9, mg_49_10, mg_49_11, mg_49_12, mg_49_13, mg_49_14, mg_49_15, mg_49_16, mg_49_17, mg_49_18, mg_49_19, mg_49_20, mg_49_21, mg_49_22, mg_49_23, mg_49_24, mg_49_25, mv.2.1, Option.bind_some, m0, ms0, z1, if_true, zcI_some, e3]
/-- the next lot, and what it is a lot for -/
def zLt (x : Int64) : Int64 := x * 48271 - x * 48271 / 2147483647 * 2147483647
def zLw (x : Int64) : Int32 := (zLt x / 16 - zLt x / 16 / 3 * 3).toInt32
theorem nightsly (E : zEk r) {m : Nat} (hm : m ≤ 20) (a2 : Int32) : ∀ q j (d : Nat) (I : zA) (Q : Nat → zA) (N : zBr) (X : Nat → zA) (s : Int32) (x : Int64), j + q = m → zIv r C c I J Q N U V X t → I 2 = nI d → X 0 0 = nI d → d + q ≤ 60 →
    ∃ v I' Q' N' X', (∀ c2 A U V X S, zev r i_X5_lots 63 [some (.ref (r.1 + 0)), some (.int (nI m)), some (.int a2), some (.long x), none, some (.int s), some (.int (nI j))] [] (zmk r c c c2 I J Q N A U V X S t) = some (some (.int v), (zmk r c c c2 (I') J (Q') (N') A U V X S t))) ∧ (∀ c0 c1 c2 I J Q N A S t, ∃ S', zev r i_X6_lots 61 [some (.ref (r.1 + 49)), some (.int (nI m)), some (.int a2), some (.long x), none, some (.int s), some (.int (nI j))] [] (zmk r c0 c1 c2 I J Q N A U V X S t) = some (some (.int v), (zmk r c0 c1 c2 I J Q N A U V (X') (S') t))) ∧ zIv r C c I' J Q' N' U V X' t := by
  intro q
  induction q with
  | zero =>
    intro j d I Q N X s x hj iv hd d0 h6
    have e : j = m := by omega
    subst e
    have nl : ¬ nI j < nI j := nI_nlt (Nat.le_refl _) (by omega)
    exact ⟨s, I, Q, N, X, fun c2 A U V X S => by rw [E_X5_lots_63, if_neg nl], fun c0 c1 c2 I J Q N A S t => ⟨S, by rw [E_X6_lots_61, if_neg nl]⟩, iv⟩
  | succ q ih =>
    intro j d I Q N X s x hj iv hd d0 h6
    have nl : nI j < nI m := nI_lt (by omega) (by omega)
    obtain ⟨v, I', Q', N', X', e1, e2, iv2, hd2, d02⟩ := nightly E iv hd d0 (by omega) (zLw x)
    obtain ⟨v3, I3, Q3, N3, X3, e3, e4, iv3⟩ := ih (j + 1) (d + 1) I' Q' N' X' (s + v) (zLt x) (by omega) iv2 hd2 d02 (by omega)
    refine ⟨v3, I3, Q3, N3, X3, fun c2 A U V X S => ?_, fun c0 c1 c2 I J Q N A S t => ?_, iv3⟩
    · rw [E_X5_lots_63, if_pos nl, if_neg (by decide), if_neg (by decide), if_neg (by decide)]
      have := e1 c2 A U V X S
      unfold zLw zLt at this
      simp only [mo_0, mg_0_0, mg_0_1, mg_0_2, mg_0_3, mg_0_4, mg_0_5, mg_0_6, mg_0_7, mg_0_8, mg_0_9, mg_0_10, mg_0_11, if_true]
      rw [this]
      simp only [zcI_some, nI_1]
      exact e3 c2 A U V X S
    · obtain ⟨S', this⟩ := e2 c0 c1 c2 I J Q N A S t
      obtain ⟨S3, e5⟩ := e4 c0 c1 c2 I J Q N A S' t
      refine ⟨S3, ?_⟩
      rw [E_X6_lots_61, if_pos nl, if_neg (by decide), if_neg (by decide), if_neg (by decide)]
      unfold zLw zLt at this
      simp only [mo_49, mg_49_0, mg_49_1, mg_49_2, mg_49_3, mg_49_4, mg_49_5, mg_49_6, mg_49_7, mg_49_8, mg_49_9, mg_49_10, mg_49_11, mg_49_12, mg_49_13, mg_49_14, mg_49_15, mg_49_16, mg_49_17, mg_49_18, mg_49_19, mg_49_20, mg_49_21, mg_49_22, mg_49_23, mg_49_24, mg_49_25, if_true]
      rw [this]
      simp only [zcI_some, nI_1]
      exact e5
theorem lk_lots (E : zEk r) (a b : Int32) {h : zH} (st : zSt r n h) : zBoth r n n (zev r i_X5_lots 0 [some (.ref (r.1 + 0)), some (.int a), some (.int b), none, none, none, none] []) (zev r i_X6_lots 0 [some (.ref (r.1 + 49)), some (.int a), some (.int b), none, none, none, none] []) h := by
  obtain ⟨C, c, c2, I, J, Q, N, A, U, V, X, S, t, rfl, iv, t1, t2⟩ := st
  obtain ⟨k, hC, mv, _, _, _, no, ⟨d, hd, hp⟩, -⟩ := id iv
  have d6 := hp.1
  have d0 : X 0 0 = nI d := hp.2.1
  have ms0 : ∀ {c0 c1 : Nat} {I J Q N A S t}, zaI r (zmk r c0 c1 c2 I J Q N A U V X S t) (r.1 + 50) 0 = some (nI d) := fun {_ _ _ _ _ _ _ _ _} => (ma_50 (j := 0) (by decide)).trans (by rw [d0])
  by_cases a1 : a < 1
  · refine both (v := (-1)) (h1 := (zmk r c c c2 I J Q N A U V X S t)) (h2 := (zmk r c c c2 I J Q N A U V X S t)) ?_ ?_ (st_mk iv t1 t2)
    · simp only [E_X5_lots_0, a1, if_true]
    · simp only [E_X6_lots_0, m_in r _ a 1 20 (l := 1) (k := 20) rfl rfl, zbw, a1, if_true, zcI_some]
  by_cases a2 : 20 < a
  · refine both (v := (-1)) (h1 := (zmk r c c c2 I J Q N A U V X S t)) (h2 := (zmk r c c c2 I J Q N A U V X S t)) ?_ ?_ (st_mk iv t1 t2)
    · simp only [E_X5_lots_0, a1, a2, if_true, if_false]
    · simp only [E_X6_lots_0, m_in r _ a 1 20 (l := 1) (k := 20) rfl rfl, zbw, a1, a2, if_true, if_false, zcI_some]
  by_cases b1 : b < 1
  · refine both (v := (-1)) (h1 := (zmk r c c c2 I J Q N A U V X S t)) (h2 := (zmk r c c c2 I J Q N A U V X S t)) ?_ ?_ (st_mk iv t1 t2)
    · simp only [E_X5_lots_0, a1, a2, b1, if_true, if_false]
    · simp only [E_X6_lots_0, m_in r _ a 1 20 (l := 1) (k := 20) rfl rfl, m_in r _ b 1 2147483646 (l := 1) (k := 2147483646) rfl rfl, zbw, a1, a2, b1, i01, if_true, if_false, zcI_some]
  have bq : (lg_cmp b.toInt64 2147483647 < 0) ↔ ¬ 2147483646 < b := by
    have hx : (2147483647 : Int64) = (2147483647 : Int32).toInt64 := by decide
    have e1 : lg_cmp b.toInt64 2147483647 < 0 ↔ b < 2147483647 := by
      rw [hx, ← i64_lt (a := b)]
      unfold lg_cmp
      by_cases c : b.toInt64 > (2147483647 : Int32).toInt64
      · rw [if_pos c]
        exact ⟨fun q => absurd q (by decide), fun q => absurd q (Int64.lt_asymm c)⟩
      · rw [if_neg c]
        by_cases c2 : b.toInt64 = (2147483647 : Int32).toInt64
        · rw [if_pos c2, c2]
          exact ⟨fun q => absurd q (by decide), fun q => absurd q Int64.lt_irrefl⟩
        · rw [if_neg c2]
          exact ⟨fun _ => Int64.lt_of_le_of_ne (Int64.not_lt.mp c) c2, fun _ => by decide⟩
    rw [e1, Int32.lt_iff_toInt_lt, Int32.lt_iff_toInt_lt, show (2147483647 : Int32).toInt = 2147483647 by decide, show (2147483646 : Int32).toInt = 2147483646 by decide]
    omega
  by_cases b2 : 2147483646 < b
  · have b3 : ¬ lg_cmp b.toInt64 2147483647 < 0 := fun q => bq.mp q b2
    refine both (v := (-1)) (h1 := (zmk r c c c2 I J Q N A U V X S t)) (h2 := (zmk r c c c2 I J Q N A U V X S t)) ?_ ?_ (st_mk iv t1 t2)
    · simp only [E_X5_lots_0, a1, a2, b1, b3, if_true, if_false]
    · simp only [E_X6_lots_0, m_in r _ a 1 20 (l := 1) (k := 20) rfl rfl, m_in r _ b 1 2147483646 (l := 1) (k := 2147483646) rfl rfl, zbw, a1, a2, b1, b2, i01, if_true, if_false, zcI_some]
  have b3 : lg_cmp b.toInt64 2147483647 < 0 := bq.mpr b2
  by_cases m0 : nI C.2.1 = 0
  · refine both (v := (-4)) (h1 := (zmk r c c c2 I J Q N A U V X S t)) (h2 := (zmk r c c c2 I J Q N A U V X S t)) ?_ ?_ (st_mk iv t1 t2)
    · simp only [E_X5_lots_0, a1, a2, b1, b3, if_true, if_false, mo_0, mg_0_0, mg_0_1, mg_0_2, mg_0_3, mg_0_4, mg_0_5, mg_0_6, mg_0_7, mg_0_8, mg_0_9, mg_0_10, mg_0_11, (hC ..).2.2.1, Option.bind_some, m0]
    · simp only [E_X6_lots_0, m_in r _ a 1 20 (l := 1) (k := 20) rfl rfl, m_in r _ b 1 2147483646 (l := 1) (k := 2147483646) rfl rfl, zbw, a1, a2, b1, b2, i01, if_true, if_false, zcI_some, mo_49, mg_49_0, mg_49_1, mg_49_2, mg_49_3, mg_49_4, mg_49_5, mg_49_6, mg_49_7, mg_49_8, mg_49_9, mg_49_10, mg_49_11, mg_49_12, mg_49_13, mg_49_14, mg_49_15, mg_49_16, mg_49_17, mg_49_18, mg_49_19, mg_49_20, mg_49_21, mg_49_22, mg_49_23, mg_49_24, mg_49_25, mv.2.1, Option.bind_some, m0]
  obtain ⟨m, hm, rfl⟩ := nI_of2 (M := 20) (n := 20) (by decide) (x := a) (fun q => a1 (Int32.lt_of_lt_of_le q (by decide))) (Int32.not_lt.mp a2)
  have gr := g_room (r := r) (c0 := c) (c1 := c) (c2 := c2) (J := J) (Q := Q) (N := N) (A := A) (U := U) (V := V) (X := X) (S := S) (t := t) hd d6 (k := m) (by omega)
  by_cases z : 60 < d + m
  · refine both (v := (-2)) (h1 := (zmk r c c c2 I J Q N A U V X S t)) (h2 := (zmk r c c c2 I J Q N A U V X S t)) ?_ ?_ (st_mk iv t1 t2)
    · simp only [E_X5_lots_0, a1, a2, b1, b3, if_true, if_false, mo_0, mg_0_0, mg_0_1, mg_0_2, mg_0_3, mg_0_4, mg_0_5, mg_0_6, mg_0_7, mg_0_8, mg_0_9, mg_0_10, mg_0_11, mo_19, (hC ..).2.2.1, Option.bind_some, m0, gr, z, zcI_some]
    · simp only [E_X6_lots_0, m_in r _ (nI m) 1 20 (l := 1) (k := 20) rfl rfl, m_in r _ b 1 2147483646 (l := 1) (k := 2147483646) rfl rfl, zbw, a1, a2, b1, b2, i01, if_true, if_false, zcI_some, mo_49, mg_49_0, mg_49_1, mg_49_2, mg_49_3, mg_49_4, mg_49_5, mg_49_6, mg_49_7, mg_49_8, mg_49_9, mg_49_10, mg_49_11, mg_49_12, mg_49_13, mg_49_14, mg_49_15, mg_49_16, mg_49_17, mg_49_18, mg_49_19, mg_49_20, mg_49_21, mg_49_22, mg_49_23, mg_49_24, mg_49_25, mv.2.1, Option.bind_some, m0, ms0, nI_add, if_pos (show (60 : Int32) < nI (d + m) from nI_lt (a := 60) z (by omega))]
  · obtain ⟨v, I', Q', N', X', e1, e2, iv2⟩ := nightsly E hm b m 0 d I Q N X 0 b.toInt64 (by omega) iv hd d0 (by omega)
    obtain ⟨S', e3⟩ := e2 c c c2 I' J Q' N' A S t
    refine both (v := v) (h1 := (zmk r c c c2 (I') J (Q') (N') A U V X S t)) (h2 := (zmk r c c c2 (I') J (Q') (N') A U V (X') (S') t)) ?_ ?_ (st_mk iv2 t1 t2)
    · simp only [E_X5_lots_0, a1, a2, b1, b3, if_true, if_false, mo_0, mg_0_0, mg_0_1, mg_0_2, mg_0_3, mg_0_4, mg_0_5, mg_0_6, mg_0_7, mg_0_8, mg_0_9, mg_0_10, mg_0_11, mo_19, (hC ..).2.2.1, Option.bind_some, m0, gr, z, zcI_some, i01]
      exact e1 c2 A U V X S
    · simp only [E_X6_lots_0, m_in r _ (nI m) 1 20 (l := 1) (k := 20) rfl rfl, m_in r _ b 1 2147483646 (l := 1) (k := 2147483646) rfl rfl, zbw, a1, a2, b1, b2, i01, if_true, if_false, zcI_some, mo_49, mg_49_0, mg_49_1, mg_49_2, mg_49_3, mg_49_4, mg_49_5, mg_49_6, mg_49_7, mg_49_8, mg_49_9, mg_49_10, mg_49_11, mg_49_12, mg_49_13, mg_49_14, mg_49_15, mg_49_16, mg_49_17, mg_49_18, mg_49_19, mg_49_20, mg_49_21, mg_49_22, mg_49_23, mg_49_24, mg_49_25, mv.2.1, Option.bind_some, m0, ms0, nI_add, if_neg (show ¬ (60 : Int32) < nI (d + m) from nI_nlt (b := d + m) (a := 60) (by omega) (by decide))]
      exact e3
end NIGHT
