/-! DEEDS: the log of the class, the past of the reference; hang, down, change, line -/
section DEEDS
variable {r : zE} {c0 c1 c2 : Nat} {I : Nat → Int32} {J : Nat → Int64} {Q : Nat → Nat → Int32} {N A : zBr} {U : Nat → Int32} {V : Nat → Int64} {X : Nat → Nat → Int32} {S : zSs} {t : zH} {C : zCs} {c n d : Nat}
theorem nI_0' : (0 : Int32) = nI 0 := rfl
theorem g_room (hd : I 2 = nI d) (h6 : d ≤ 60) {k : Nat} (hk : k ≤ 60) : zev r i_X2_hasRoomFor 0 [some (.ref (r.1 + 19)), some (.int (nI k))] [] (zmk r c0 c1 c2 I J Q N A U V X S t) = some (some (.int (if 60 < d + k then 0 else 1)), zmk r c0 c1 c2 I J Q N A U V X S t) := by
  have e : (60 : Int32) - nI d = nI (60 - d) := pk_sub (a := 60) h6
  simp only [E_X2_hasRoomFor_0, mg_19_1, Option.bind_some, hd, e]
  by_cases h : 60 < d + k
  · rw [if_pos (nI_lt (by omega) (by omega)), if_pos h]
  · rw [if_neg (nI_nlt (by omega) (by omega)), if_neg h]
/-- a moment written -/
def zWr (f : zA) (N : zBr) (b : Nat) : zA := va_cpy N.2.2.2 (va_cpy N.2.2.1 (va_cpy N.1 f 0 b 6) 0 (b + 6) 6) 0 (b + 12) 6
theorem zWr_h (f : zA) (N : zBr) (b : Nat) {m : Nat} (h : m < 6) : zWr f N b (b + m) = N.1 m := by
  unfold zWr va_cpy
  rw [if_neg (by omega), if_neg (by omega), if_pos (by omega), show 0 + (b + m - b) = m by omega]
theorem zWr_l (f : zA) (N : zBr) (b : Nat) {m : Nat} (h : m < 6) : zWr f N b (b + (6 + m)) = N.2.2.1 m := by
  unfold zWr va_cpy
  rw [if_neg (by omega), if_pos (by omega), show 0 + (b + (6 + m) - (b + 6)) = m by omega]
theorem zWr_t (f : zA) (N : zBr) (b : Nat) {m : Nat} (h : m < 6) : zWr f N b (b + (12 + m)) = N.2.2.2 m := by
  unfold zWr va_cpy
  rw [if_pos (by omega), show 0 + (b + (12 + m) - (b + 12)) = m by omega]
theorem zWr_o (f : zA) (N : zBr) (b : Nat) {i : Nat} (h : i < b ∨ b + 18 ≤ i) : zWr f N b i = f i := by
  unfold zWr va_cpy
  rw [if_neg (by omega), if_neg (by omega), if_neg (by omega)]
theorem g_write {b : Nat} (hb : b + 18 ≤ 1098) : zev r i_X0_writeTo 0 [some (.ref (r.1 + 9)), some (.ref (r.1 + 20)), some (.int (nI b))] [] (zmk r c0 c1 c2 I J Q N A U V X S t) = some (none, (zmk r c0 c1 c2 I J (va_up Q 9 (zWr (Q 9) N b)) N A U V X S t)) := by
  have e6 : (6 : Int32) = nI 6 := rfl
  have e1 : nI b + 6 = nI (b + 6) := nI_add b 6
  have e2 : nI b + 12 = nI (b + 12) := nI_add b 12
  have p1 : zcp r (zmk r c0 c1 c2 I J Q N A U V X S t) (r.1 + 10) 0 (r.1 + 20) (nI b) 6 = some (zmk r c0 c1 c2 I J (va_up Q 9 (va_cpy N.1 (Q 9) 0 b 6)) N A U V X S t) := by
    rw [nI_0', e6, zcp_of mc_10 mc_20 (by decide) (by omega) (by decide) (by decide), ms_20]
  have p2 : ∀ f : zA, zcp r (zmk r c0 c1 c2 I J (va_up Q 9 f) N A U V X S t) (r.1 + 12) 0 (r.1 + 20) (nI (b + 6)) 6 = some (zmk r c0 c1 c2 I J (va_up Q 9 (va_cpy N.2.2.1 f 0 (b + 6) 6)) N A U V X S t) := fun f => by
    rw [nI_0', e6, zcp_of mc_12 mc_20 (by decide) (by omega) (by decide) (by decide), ms_20, va_same, bx_uu]
  have p3 : ∀ f : zA, zcp r (zmk r c0 c1 c2 I J (va_up Q 9 f) N A U V X S t) (r.1 + 13) 0 (r.1 + 20) (nI (b + 12)) 6 = some (zmk r c0 c1 c2 I J (va_up Q 9 (va_cpy N.2.2.2 f 0 (b + 12) 6)) N A U V X S t) := fun f => by
    rw [nI_0', e6, zcp_of mc_13 mc_20 (by decide) (by omega) (by decide) (by decide), ms_20, va_same, bx_uu]
  have q2 : ¬ nI 1098 - 18 < nI b := by
    rw [show (18 : Int32) = nI 18 from rfl, pk_sub (by decide)]
    exact nI_nlt (by omega) (by decide)
  simp only [E_X0_writeTo_0, if_neg (nI_pos (show b < 2 ^ 31 by omega)), mn_20, Option.bind_some, nI_of0, if_neg q2, mg_9_1, mg_9_3, mg_9_4, p1, e1, e2, p2, p3]
  rfl
theorem g_add (hd : I 2 = nI d) (h6 : d < 60) : zev r i_X2_add 0 [some (.ref (r.1 + 19)), some (.ref (r.1 + 9))] [] (zmk r c0 c1 c2 I J Q N A U V X S t) = some (none, (zmk r c0 c1 c2 (va_up I 2 (nI (d + 1))) J (va_up Q 9 (zWr (Q 9) N (18 * (d + 1)))) N A U V X S t)) := by
  have e1 := g_room (r := r) (c0 := c0) (c1 := c1) (c2 := c2) (J := J) (Q := Q) (N := N) (A := A) (U := U) (V := V) (X := X) (S := S) (t := t) hd (by omega) (k := 1) (by decide)
  rw [if_neg (show ¬ 60 < d + 1 by omega)] at e1
  have e2 : nI (d + 1) * 18 = nI (18 * (d + 1)) := by rw [show (18 : Int32) = nI 18 from rfl, pk_mul, Nat.mul_comm]
  simp only [E_X2_add_0, mo_19, if_true, show (1 : Int32) = nI 1 from rfl, e1, zcI_some]
  simp only [show ¬ nI 1 = 0 by decide, if_false, mg_19_1, mg_19_0, Option.bind_some, hd, nI_add, mp_19_1, va_same, mo_9, if_true, e2, g_write (show 18 * (d + 1) + 18 ≤ 1098 by omega), zcV_some]
/-- what the reference's row is when it has kept what is -/
def zKp (f : zA) (d : Nat) : zA := fun i => if i = 0 then nI (d + 1) else if 19 + 18 * d ≤ i ∧ i < 19 + 18 * d + 18 then f (1 + (i - (19 + 18 * d))) else f i
theorem m_keepp (hd : X 0 0 = nI d) (h6 : d < 60) : zev r i_X6_keepPast 0 [some (.ref (r.1 + 49)), none] [] (zmk r c0 c1 c2 I J Q N A U V X S t) = some (none, (zmk r c0 c1 c2 I J Q N A U V (va_up X 0 (zKp (X 0) d)) S t)) := by
  rw [E_X6_keepPast_0]
  have := zloopP (fun q (f : zA) => f = fun i => if 19 + 18 * d ≤ i ∧ i < 19 + 18 * d + q then X 0 (1 + (i - (19 + 18 * d))) else X 0 i) (fun q (f : zA) => zev r i_X6_keepPast 2 [some (.ref (r.1 + 49)), some (.int (nI q))] [] (zmk r c0 c1 c2 I J Q N A U V (va_up X 0 f) S t)) (fun f => some (none, (zmk r c0 c1 c2 I J Q N A U V (va_up X 0 (upd f 0 (nI (d + 1)))) S t))) (fun f q => upd f (19 + 18 * d + q) (f (1 + q))) 18 (fun q f hq p => by
    have f0 : f 0 = nI d := by rw [p]; dsimp only; rw [if_neg (by omega), hd]
    have e1 : (19 : Int32) + 18 * nI d + nI q = nI (19 + 18 * d + q) := by rw [show (18 : Int32) = nI 18 from rfl, pk_mul, show (19 : Int32) = nI 19 from rfl, nI_add, nI_add]
    have e2 : (1 : Int32) + nI q = nI (1 + q) := nI_add 1 q
    refine ⟨(E_X6_keepPast_2 ..).trans ?_, ?_⟩
    · simp only [if_pos (show nI q < 18 from nI_lt (b := 18) hq (by decide)), mo_49, mg_49_0, mg_49_1, mg_49_2, mg_49_3, mg_49_4, mg_49_5, mg_49_6, mg_49_7, mg_49_8, mg_49_9, mg_49_10, mg_49_11, mg_49_12, mg_49_13, mg_49_14, mg_49_15, mg_49_16, mg_49_17, mg_49_18, mg_49_19, mg_49_20, mg_49_21, mg_49_22, mg_49_23, mg_49_24, mg_49_25, Option.bind_some]
      simp only [nI_0', ma_50 (show 0 < 4396 by decide), va_same, f0, Option.bind_some, e1, e2, ma_50 (show 1 + q < 4396 by omega), mw_50 (show 19 + 18 * d + q < 4396 by omega), bx_uu, nI_1]
    · subst p
      funext i
      show upd _ _ _ i = _
      unfold upd
      dsimp only
      by_cases e : i = 19 + 18 * d + q
      · subst e
        rw [if_pos rfl, if_neg (by omega), if_pos (by omega), show 19 + 18 * d + q - (19 + 18 * d) = q by omega]
      · rw [if_neg e]
        by_cases e2 : 19 + 18 * d ≤ i ∧ i < 19 + 18 * d + q
        · rw [if_pos e2, if_pos (by omega)]
        · rw [if_neg e2, if_neg (by omega)]) (fun f p => by
    have f0 : f 0 = nI d := by rw [p]; dsimp only; rw [if_neg (by omega), hd]
    refine (E_X6_keepPast_2 ..).trans ?_
    simp only [if_neg (show ¬ nI 18 < 18 by decide), mo_49, mg_49_0, mg_49_1, mg_49_2, mg_49_3, mg_49_4, mg_49_5, mg_49_6, mg_49_7, mg_49_8, mg_49_9, mg_49_10, mg_49_11, mg_49_12, mg_49_13, mg_49_14, mg_49_15, mg_49_16, mg_49_17, mg_49_18, mg_49_19, mg_49_20, mg_49_21, mg_49_22, mg_49_23, mg_49_24, mg_49_25, Option.bind_some]
    simp only [nI_0', ma_50 (show 0 < 4396 by decide), mw_50 (show 0 < 4396 by decide), va_same, f0, Option.bind_some, nI_1, bx_uu]) (X 0) (by
    funext i
    rw [if_neg (by omega)])
  obtain ⟨h1, h2⟩ := this
  rw [va_self] at h1
  refine h1.trans ?_
  rw [h2]
  rfl
theorem cg_vi {H G : zA} (k : zCk C) (g : zCG C H G) : zVI C H := ⟨cg_vd g, fun m q hm hq e hn => by
  rcases g.1 m hm with z | ⟨j, a1, a2, a3⟩
  · exact absurd z hn
  · exact zCG_inj g k hm hq a1 a2 (e.symm.trans a2)⟩
theorem vi_c {H H' : zA} (e : ∀ m, m < C.2.1 → H' m = H m) (v : zVI C H) : zVI C H' := ⟨vd_c e v.1, fun m q hm hq => by rw [e m hm, e q hq]; exact v.2 m q hm hq⟩
theorem lk_c {L L' : zA} (e : ∀ m, m < C.2.1 → L' m = L m) (v : zLk C L) : zLk C L' := fun m hm => by rw [e m hm]; exact v m hm
theorem iv_deed (iv : zIv r C c I J Q N U V X t) (hp : zPast C d (Q 9) (X 0)) (h6 : d < 60) (N' : zBr) (g : zCG C N'.1 N'.2.1) (l : zLk C N'.2.2.1) (f : zA) (f0 : f 0 = nI (d + 1)) (fc : ∀ m, m < C.2.1 → f (1 + m) = N'.1 m ∧ f (7 + m) = N'.2.2.1 m ∧ f (13 + m) = N'.2.2.2 m) (fp : ∀ i, 19 ≤ i → i < 19 + 18 * d → f i = X 0 i) (fq : ∀ q, q < 18 → f (19 + 18 * d + q) = X 0 (1 + q)) (fk : ∀ i, 1099 ≤ i → f i = X 0 i) :
    zIv r C c (va_up I 2 (nI (d + 1))) J (va_up Q 9 (zWr (Q 9) N' (18 * (d + 1)))) N' U V (va_up X 0 f) t := by
  obtain ⟨a1, a2, a3, a4, a5, a6, a7, a8, a9⟩ := iv
  obtain ⟨p1, p2, p3, p4, p5⟩ := hp
  have k2 := a1.2.1
  refine ⟨a1, a2, zMv_c a3 rfl rfl rfl rfl rfl rfl, zTo_c a4 (va_ne (by decide)) (va_ne (by decide)) rfl rfl (va_ne (by decide)) rfl rfl rfl rfl (va_ne (by decide)), zRo_c a5 (fun j _ => va_ne (by omega)) (fun j _ => va_ne (by omega)) rfl rfl, zTe_c a6 (fun j _ => va_ne (by omega)) (fun j _ => va_ne (by omega)) rfl rfl, ⟨g, l, ?_⟩, ⟨d + 1, va_same, ?_⟩, zKe_c a9 (fun j _ => va_ne (by omega)) (fun j _ => va_ne (by omega)) (fun i hi => by rw [va_same]; exact fk i hi)⟩
  · intro m hm
    rw [va_same]
    obtain ⟨b1, b2, b3⟩ := fc m hm
    exact ⟨b1.symm, b2.symm, b3.symm⟩
  · rw [va_same, va_same]
    refine ⟨by omega, f0, fun q m hq hm => ?_, fun j q m hj hq hm => ?_, fun j hj => ?_⟩
    · obtain ⟨b1, b2, b3⟩ := fc m hm
      match q, hq with
      | 0, _ =>
        rw [show 6 * 0 + m = m by omega, zWr_h _ _ _ (by omega), b1]
      | 1, _ =>
        rw [show 6 * 1 + m = 6 + m by omega, zWr_l _ _ _ (by omega), show 1 + (6 + m) = 7 + m by omega, b2]
      | 2, _ =>
        rw [show 6 * 2 + m = 12 + m by omega, zWr_t _ _ _ (by omega), show 1 + (12 + m) = 13 + m by omega, b3]
      | q + 3, h => exact absurd h (by omega)
    · rw [zWr_o _ _ _ (by omega)]
      by_cases e : j = d
      · subst e
        rw [show 19 + 18 * j + (6 * q + m) = 19 + 18 * j + (6 * q + m) from rfl, fq _ (by omega)]
        exact p3 q m hq hm
      · rw [fp _ (by omega) (by omega)]
        exact p4 j q m (by omega) hq hm
    · by_cases e : j = d + 1
      · subst e
        exact ⟨vi_c (fun m hm => zWr_h _ _ _ (by omega)) (cg_vi a1 g), lk_c (fun m hm => zWr_l _ _ _ (by omega)) l⟩
      · obtain ⟨b1, b2⟩ := p5 j (by omega)
        exact ⟨vi_c (fun m hm => zWr_o _ _ _ (by omega)) b1, lk_c (fun m hm => zWr_o _ _ _ (by omega)) b2⟩
theorem d60 {d : Nat} (h : d ≤ 60) : nI d = 60 ↔ d = 60 := (nI_eq (b := 60) (by omega) (by decide))
/-- a deed's change of the reference's row -/
theorem kp_0 {f : zA} : zKp f d 0 = nI (d + 1) := if_pos rfl
theorem kp_c {f : zA} {i : Nat} (h1 : 1 ≤ i) (h2 : i < 19) : zKp f d i = f i := by
  unfold zKp
  rw [if_neg (by omega), if_neg (by omega)]
theorem kp_p {f : zA} {i : Nat} (h1 : 19 ≤ i) (h2 : i < 19 + 18 * d) : zKp f d i = f i := by
  unfold zKp
  rw [if_neg (by omega), if_neg (by omega)]
theorem kp_q {f : zA} {q : Nat} (h : q < 18) : zKp f d (19 + 18 * d + q) = f (1 + q) := by
  unfold zKp
  rw [if_neg (by omega), if_pos (by omega), show 19 + 18 * d + q - (19 + 18 * d) = q by omega]
theorem kp_k {f : zA} (hd : d < 60) {i : Nat} (h1 : 1099 ≤ i) : zKp f d i = f i := by
  unfold zKp
  rw [if_neg (by omega), if_neg (by omega)]
theorem iv_deed' (iv : zIv r C c I J Q N U V X t) (hp : zPast C d (Q 9) (X 0)) (h6 : d < 60) (N' : zBr) (g : zCG C N'.1 N'.2.1) (l : zLk C N'.2.2.1) (f : zA) (fc : ∀ m, m < C.2.1 → f (1 + m) = N'.1 m ∧ f (7 + m) = N'.2.2.1 m ∧ f (13 + m) = N'.2.2.2 m) (fo : ∀ i, ¬ (1 ≤ i ∧ i < 19) → f i = zKp (X 0) d i) :
    zIv r C c (va_up I 2 (nI (d + 1))) J (va_up Q 9 (zWr (Q 9) N' (18 * (d + 1)))) N' U V (va_up X 0 f) t :=
  iv_deed iv hp h6 N' g l f ((fo 0 (by omega)).trans kp_0) fc (fun i h1 h2 => (fo i (by omega)).trans (kp_p h1 h2)) (fun q hq => (fo _ (by omega)).trans (kp_q hq)) (fun i hi => (fo i (by omega)).trans (kp_k h6 hi))
end DEEDS
