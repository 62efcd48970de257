/-! HOW MUCH at most; the berths aside; GAIN, CUT: both alike -/
section BOUNDS
variable {C : zCs} {H L : zA}
theorem lim_wk : ∀ a, a < 10 → ∀ b, b < 10 → ∃ x, x ≤ 9 ∧ (if nI a < nI b then nI b - nI a else nI a - nI b) = nI x := fun a ha b hb => by
  by_cases c : a < b
  · rw [if_pos (nI_lt c (by omega)), pk_sub (by omega)]; exact ⟨b - a, by omega, rfl⟩
  · rw [if_neg (nI_nlt (by omega) (by omega)), pk_sub (by omega)]; exact ⟨a - b, by omega, rfl⟩
theorem lim_ht (k : Int32) : ∃ x, x ≤ 2 ∧ sHt k = nI x := by
  unfold sHt
  split
  · exact ⟨2, by decide, rfl⟩
  · split
    · exact ⟨1, by decide, rfl⟩
    · exact ⟨0, by decide, rfl⟩
theorem lim_sWk (l : zLk C L) {k m : Nat} (hk : k < C.2.1) (hm : m < C.2.1) : ∃ x, x ≤ 15 ∧ sWk C L k m = nI x := by
  obtain ⟨a, ha, ea⟩ := l m hm
  obtain ⟨b, hb, eb⟩ := l k hk
  obtain ⟨x1, h1, e1⟩ := lim_wk a ha b hb
  obtain ⟨x2, h2, e2⟩ := lim_ht (C.2.2.2.1 k)
  obtain ⟨x3, h3, e3⟩ := lim_ht (C.2.2.2.1 m)
  have : ∃ x, x ≤ 2 ∧ (if C.2.2.2.1 k = 2 then if C.2.2.2.1 m = 3 then (0 : Int32) else 2 else 0) = nI x := by
    split
    · split
      · exact ⟨0, by decide, rfl⟩
      · exact ⟨2, by decide, rfl⟩
    · exact ⟨0, by decide, rfl⟩
  obtain ⟨x4, h4, e4⟩ := this
  unfold sWk
  rw [ea, eb, e1, e2, e3, e4, nI_add, nI_add, nI_add]
  exact ⟨_, by omega, rfl⟩
theorem lim_sSu (k : zCk C) (l : zLk C L) {m : Nat} (hm : m < C.2.1) {j : Nat} (hj : j < C.1) (e : H m = nI j) (w b : Int32) : ∃ x, x ≤ 94 ∧ sSu C H L m w b = nI x + -1 := by
  have k1 := k.1
  have k2 := k.2.1
  have := zfd_inv (f := fun a q => a + (if nI q = b then 0 else if sBes C H q m w = 0 then 0 else sWk C L q m)) (fun i (a : Int32) => ∃ x, x ≤ 4 + 15 * i ∧ a = nI x + -1) (j := 0) (n := C.2.1) (s := sPw (C.2.2.1 (H m).toNatClampNeg)) (by
    rw [e, nI_clamp (by omega)]
    obtain ⟨p, hp, ep⟩ := k.2.2.2.1 j hj
    rw [ep]
    have : ∀ p, p < 5 → ∃ x, x < 5 ∧ sPw (nI p) = nI x + -1 := by decide +kernel
    obtain ⟨x, hx, ex⟩ := this p hp
    exact ⟨x, by omega, ex⟩) (fun a i _ hi ⟨x, hx, ex⟩ => by
    have : ∃ y, y ≤ 15 ∧ (if nI i = b then 0 else if sBes C H i m w = 0 then 0 else sWk C L i m) = nI y := by
      split
      · exact ⟨0, by decide, rfl⟩
      · split
        · exact ⟨0, by decide, rfl⟩
        · exact lim_sWk l (by omega) hm
    obtain ⟨y, hy, ey⟩ := this
    refine ⟨x + y, by omega, ?_⟩
    rw [ey, ex, Int32.add_assoc, Int32.add_comm (-1), ← Int32.add_assoc, nI_add])
  obtain ⟨x, hx, ex⟩ := this
  exact ⟨x, by omega, ex⟩
theorem lim_sWo (k : zCk C) (l : zLk C L) (v : zVd C H) {m : Nat} (hm : m < C.2.1) (w b : Int32) : ∃ x, x ≤ 190 ∧ sWo C H L m w b = nI x := by
  unfold sWo
  by_cases e : sIn C H m w = 0
  · rw [if_pos e]; exact ⟨0, by decide, rfl⟩
  · rw [if_neg e]
    have e2 : ¬ H m = -9 := fun q => e (by unfold sIn; rw [if_pos q])
    obtain ⟨j, hj, ej⟩ := (v m hm).resolve_left e2
    obtain ⟨x, hx, ex⟩ := lim_sSu k l hm hj ej w b
    have : ∃ y, y ≤ 94 ∧ (if sSu C H L m w b < 0 then 0 else sSu C H L m w b) = nI y := by
      rw [ex]
      cases x with
      | zero => exact ⟨0, by decide, by decide⟩
      | succ x => rw [pk_m1, if_neg (nI_pos (by omega))]; exact ⟨x, by omega, rfl⟩
    obtain ⟨y, hy, ey⟩ := this
    rw [ey, show (2 : Int32) = nI 2 from rfl, pk_mul]
    split
    · exact ⟨2 * y, by omega, rfl⟩
    · exact ⟨y, by omega, rfl⟩
theorem lim_sAll (k : zCk C) (l : zLk C L) (v : zVd C H) (w : Int32) : ∃ x, x ≤ 1200 ∧ sAll C H L w = nI x := by
  have k2 := k.2.1
  have := zfd_inv (f := fun a m => a + sWo C H L m w (-9)) (fun i (a : Int32) => ∃ x, x ≤ 200 * i ∧ a = nI x) (j := 0) (n := C.2.1) (s := 0) ⟨0, by decide, rfl⟩ (fun a i _ hi ⟨x, hx, ex⟩ => by
    obtain ⟨y, hy, ey⟩ := lim_sWo k l v (show i < C.2.1 by omega) w (-9)
    exact ⟨x + y, by omega, by rw [ey, ex, nI_add]⟩)
  obtain ⟨x, hx, ex⟩ := this
  exact ⟨x, by omega, ex⟩
theorem lim_sMost (k : zCk C) (l : zLk C L) (v : zVd C H) (w : Int32) : ∃ x, x ≤ 200 ∧ sMost C H L w = nI x := by
  have k2 := k.2.1
  have := zfd_inv (f := fun a m => if a < sWo C H L m w (-9) then sWo C H L m w (-9) else a) (fun i (a : Int32) => ∃ x, x ≤ 200 ∧ a = nI x) (j := 0) (n := C.2.1) (s := 0) ⟨0, by decide, rfl⟩ (fun a i _ hi ⟨x, hx, ex⟩ => by
    obtain ⟨y, hy, ey⟩ := lim_sWo k l v (show i < C.2.1 by omega) w (-9)
    split
    · exact ⟨y, by omega, ey⟩
    · exact ⟨x, hx, ex⟩)
  exact this
end BOUNDS
section ASIDE
variable {r : zE} {c0 c1 c2 : Nat} {I : Nat → Int32} {J : Nat → Int64} {Q : Nat → Nat → Int32} {N A : zBr} {U : Nat → Int32} {V : Nat → Int64} {X : Nat → Nat → Int32} {S : zSs} {t : zH} {C : zCs} {c n d : Nat}
/-- the berths aside, when they are as now -/
def yCp (N A : zBr) : zBr := (va_cpy N.1 A.1 0 0 6, va_cpy N.2.1 A.2.1 0 0 7, va_cpy N.2.2.1 A.2.2.1 0 0 6, va_cpy N.2.2.2 A.2.2.2 0 0 6)
theorem cpy_in {f g : zA} {n j : Nat} (h : j < n) : va_cpy f g 0 0 n j = f j := by
  unfold va_cpy; rw [if_pos (by omega), show 0 + (j - 0) = j by omega]
theorem a_copy : zev r i_X0_copyFrom 0 [some (.ref (r.1 + 14)), some (.ref (r.1 + 9))] [] (zmk r c0 c1 c2 I J Q N A U V X S t) = some (none, (zmk r c0 c1 (c1) I J Q N (yCp N A) U V X S t)) := by
  have e6 : (6 : Int32) = nI 6 := rfl
  have e7 : (7 : Int32) = nI 7 := rfl
  have p1 : ∀ A : zBr, zcp r (zmk r c0 c1 (c1) I J Q N A U V X S t) (r.1 + 10) 0 (r.1 + 15) 0 6 = some (zmk r c0 c1 (c1) I J Q N ((va_cpy N.1 A.1 0 0 6, A.2.1, A.2.2.1, A.2.2.2)) U V X S t) := fun A => by
    rw [nI_0', e6, zcp_of mc_10 mc_15 (by decide) (by decide) (by decide) (by decide), ms_15]
  have p2 : ∀ A : zBr, zcp r (zmk r c0 c1 (c1) I J Q N A U V X S t) (r.1 + 11) 0 (r.1 + 16) 0 7 = some (zmk r c0 c1 (c1) I J Q N ((A.1, va_cpy N.2.1 A.2.1 0 0 7, A.2.2.1, A.2.2.2)) U V X S t) := fun A => by
    rw [nI_0', e7, zcp_of mc_11 mc_16 (by decide) (by decide) (by decide) (by decide), ms_16]
  have p3 : ∀ A : zBr, zcp r (zmk r c0 c1 (c1) I J Q N A U V X S t) (r.1 + 12) 0 (r.1 + 17) 0 6 = some (zmk r c0 c1 (c1) I J Q N ((A.1, A.2.1, va_cpy N.2.2.1 A.2.2.1 0 0 6, A.2.2.2)) U V X S t) := fun A => by
    rw [nI_0', e6, zcp_of mc_12 mc_17 (by decide) (by decide) (by decide) (by decide), ms_17]
  have p4 : ∀ A : zBr, zcp r (zmk r c0 c1 (c1) I J Q N A U V X S t) (r.1 + 13) 0 (r.1 + 18) 0 6 = some (zmk r c0 c1 (c1) I J Q N ((A.1, A.2.1, A.2.2.1, va_cpy N.2.2.2 A.2.2.2 0 0 6)) U V X S t) := fun A => by
    rw [nI_0', e6, zcp_of mc_13 mc_18 (by decide) (by decide) (by decide) (by decide), ms_18]
  simp only [E_X0_copyFrom_0, mg_9_0, mg_9_1, mg_9_2, mg_9_3, mg_9_4, mg_14_1, mg_14_2, mg_14_3, mg_14_4, mp_14_0, Option.bind_some, p1, p2, p3, p4]
  rfl
theorem cp_h (k : zCk C) (N A : zBr) : ∀ m, m < C.2.1 → (yCp N A).1 m = N.1 m := fun m hm => cpy_in (by have := k.2.1; omega)
theorem cp_g (k : zCk C) (N A : zBr) : ∀ m, m < C.1 → (yCp N A).2.1 m = N.2.1 m := fun m hm => cpy_in (by have := k.1; omega)
theorem cp_l (k : zCk C) (N A : zBr) : ∀ m, m < C.2.1 → (yCp N A).2.2.1 m = N.2.2.1 m := fun m hm => cpy_in (by have := k.2.1; omega)
theorem cg_c {H H' G G' : zA} (eh : ∀ m, m < C.2.1 → H' m = H m) (eg : ∀ m, m < C.1 → G' m = G m) (g : zCG C H G) : zCG C H' G' := ⟨fun m hm => by
  rcases g.1 m hm with z | ⟨j, a1, a2, a3⟩
  · exact .inl ((eh m hm).trans z)
  · exact .inr ⟨j, a1, (eh m hm).trans a2, (eg j a1).trans a3⟩, fun j hj => by
  rcases g.2 j hj with z | ⟨m, a1, a2, a3⟩
  · exact .inl ((eg j hj).trans z)
  · exact .inr ⟨m, a1, (eg j hj).trans a2, (eh m a1).trans a3⟩⟩
theorem cp_cg (k : zCk C) {N : zBr} (g : zCG C N.1 N.2.1) (A : zBr) : zCG C (yCp N A).1 (yCp N A).2.1 := cg_c (cp_h k N A) (cp_g k N A) g
theorem cp_lk (k : zCk C) {N : zBr} (l : zLk C N.2.2.1) (A : zBr) : zLk C (yCp N A).2.2.1 := lk_c (cp_l k N A) l
theorem m_swap {m q : Nat} (hm : m < 6) (hq : q < 6) : zev r i_X6_swap 0 [some (.ref (r.1 + 49)), some (.int (nI m)), some (.int (nI q)), none] [] (zmk r c0 c1 c2 I J Q N A U V X S t) = some (none, (zmk r c0 c1 c2 I J Q N A U V X ((upd (upd S.1 m (S.1 q)) q (S.1 m), S.2.1, S.2.2)) t)) := by
  simp only [E_X6_swap_0, mo_49, mg_49_0, mg_49_1, mg_49_2, mg_49_3, mg_49_4, mg_49_5, mg_49_6, mg_49_7, mg_49_8, mg_49_9, mg_49_10, mg_49_11, mg_49_12, mg_49_13, mg_49_14, mg_49_15, mg_49_16, mg_49_17, mg_49_18, mg_49_19, mg_49_20, mg_49_21, mg_49_22, mg_49_23, mg_49_24, mg_49_25, Option.bind_some, ma_62 hm, ma_62 hq, mw_62 hm, mw_62 hq]
theorem sw_eq {f g : zA} {m q p : Nat} (hn : m ≠ q) (em : f m = g m) (eq : f q = g q) (e : f p = g p) : upd (upd f m (f q)) q (f m) p = upd (upd g q (g m)) m (g q) p := by
  by_cases w : p = q
  · subst w; rw [upd_s, upd_n (Ne.symm hn), upd_s, em]
  · rw [upd_n w]
    by_cases w2 : p = m
    · subst w2; rw [upd_s, upd_s, eq]
    · rw [upd_n w2, upd_n w2, upd_n w, e]
theorem lk_gain (E : zEk r) (a b w : Int32) {h : zH} (st : zSt r n h) : zBoth r n n (zev r i_X5_gain 0 [some (.ref (r.1 + 0)), some (.int a), some (.int b), some (.int w)] []) (zev r i_X6_gain 0 [some (.ref (r.1 + 49)), some (.int a), some (.int b), some (.int w), none] []) h := by
  obtain ⟨C, c, c2, I, J, Q, N, A, U, V, X, S, t, rfl, iv, t1, t2⟩ := st
  obtain ⟨k, hC, mv, _, _, _, no, -⟩ := id iv
  have k2 := k.2.1
  rcases zhk_cases C.2.1 (by omega) a with e | ⟨e, m, hm, rfl⟩
  · refine both (v := (-1)) (h1 := (zmk r c c c2 I J Q N A U V X S t)) (h2 := (zmk r c c c2 I J Q N A U V X S t)) ?_ ?_ (st_mk iv t1 t2)
    · simp only [E_X5_gain_0, mo_0, mg_0_0, mg_0_1, mg_0_2, mg_0_3, mg_0_4, mg_0_5, mg_0_6, mg_0_7, mg_0_8, mg_0_9, mg_0_10, mg_0_11, Option.bind_some, (hC ..).1, if_true, cr_man (hC ..), e, zcI_some]
    · simp only [E_X6_gain_0, mo_49, mg_49_0, mg_49_1, mg_49_2, mg_49_3, mg_49_4, mg_49_5, mg_49_6, mg_49_7, mg_49_8, mg_49_9, mg_49_10, mg_49_11, mg_49_12, mg_49_13, mg_49_14, mg_49_15, mg_49_16, mg_49_17, mg_49_18, mg_49_19, mg_49_20, mg_49_21, mg_49_22, mg_49_23, mg_49_24, mg_49_25, if_true, m_two mv k, e, zcI_some]
  rcases zhk_cases C.2.1 (by omega) b with f | ⟨f, q, hq, rfl⟩
  · refine both (v := (-1)) (h1 := (zmk r c c c2 I J Q N A U V X S t)) (h2 := (zmk r c c c2 I J Q N A U V X S t)) ?_ ?_ (st_mk iv t1 t2)
    · simp only [E_X5_gain_0, mo_0, mg_0_0, mg_0_1, mg_0_2, mg_0_3, mg_0_4, mg_0_5, mg_0_6, mg_0_7, mg_0_8, mg_0_9, mg_0_10, mg_0_11, Option.bind_some, (hC ..).1, if_true, cr_man (hC ..), e, f, i01, if_false, zcI_some]
    · simp only [E_X6_gain_0, mo_49, mg_49_0, mg_49_1, mg_49_2, mg_49_3, mg_49_4, mg_49_5, mg_49_6, mg_49_7, mg_49_8, mg_49_9, mg_49_10, mg_49_11, mg_49_12, mg_49_13, mg_49_14, mg_49_15, mg_49_16, mg_49_17, mg_49_18, mg_49_19, mg_49_20, mg_49_21, mg_49_22, mg_49_23, mg_49_24, mg_49_25, if_true, m_two mv k, e, f, i01, if_false, zcI_some]
  by_cases u : m = q
  · subst u
    refine both (v := (-1)) (h1 := (zmk r c c c2 I J Q N A U V X S t)) (h2 := (zmk r c c c2 I J Q N A U V X S t)) ?_ ?_ (st_mk iv t1 t2)
    · simp only [E_X5_gain_0, mo_0, mg_0_0, mg_0_1, mg_0_2, mg_0_3, mg_0_4, mg_0_5, mg_0_6, mg_0_7, mg_0_8, mg_0_9, mg_0_10, mg_0_11, Option.bind_some, (hC ..).1, if_true, cr_man (hC ..), e, i01, if_false, zcI_some]
    · simp only [E_X6_gain_0, mo_49, mg_49_0, mg_49_1, mg_49_2, mg_49_3, mg_49_4, mg_49_5, mg_49_6, mg_49_7, mg_49_8, mg_49_9, mg_49_10, mg_49_11, mg_49_12, mg_49_13, mg_49_14, mg_49_15, mg_49_16, mg_49_17, mg_49_18, mg_49_19, mg_49_20, mg_49_21, mg_49_22, mg_49_23, mg_49_24, mg_49_25, if_true, m_two mv k, e, i01, if_false, zcI_some]
  have u1 : ¬ nI m = nI q := fun z => u ((nI_eq (by omega) (by omega)).mp z)
  rcases zhk_cases 3 (by decide) w with g | ⟨g, w, hw, rfl⟩
  · refine both (v := (-1)) (h1 := (zmk r c c c2 I J Q N A U V X S t)) (h2 := (zmk r c c c2 I J Q N A U V X S t)) ?_ ?_ (st_mk iv t1 t2)
    · simp only [E_X5_gain_0, mo_0, mg_0_0, mg_0_1, mg_0_2, mg_0_3, mg_0_4, mg_0_5, mg_0_6, mg_0_7, mg_0_8, mg_0_9, mg_0_10, mg_0_11, Option.bind_some, (hC ..).1, if_true, cr_man (hC ..), e, f, u1, k_when, g, i01, if_false, zcI_some]
    · simp only [E_X6_gain_0, mo_49, mg_49_0, mg_49_1, mg_49_2, mg_49_3, mg_49_4, mg_49_5, mg_49_6, mg_49_7, mg_49_8, mg_49_9, mg_49_10, mg_49_11, mg_49_12, mg_49_13, mg_49_14, mg_49_15, mg_49_16, mg_49_17, mg_49_18, mg_49_19, mg_49_20, mg_49_21, mg_49_22, mg_49_23, mg_49_24, mg_49_25, if_true, m_two mv k, e, f, u1, m_when, g, i01, if_false, zcI_some]
  have ax := aBx (r := r) (c0 := c) (c1 := c) (I := I) (J := J) (Q := Q) (N := N) (U := U) (V := V) (X := X) (S := S) hC
  obtain ⟨G', e1, cg1⟩ := b_swap ax k (B := yCp N A) (cp_cg k no.1 A) hm hq u
  have e2 := b_all ax k E (B := (upd (upd (yCp N A).1 q ((yCp N A).1 m)) m ((yCp N A).1 q), G', (yCp N A).2.2.1, (yCp N A).2.2.2)) (cp_lk k no.2.1 A) cg1 (nI w)
  have e3 := b_all (nBx (c0 := c) (c2 := c) (I := I) (J := J) (Q := Q) (A := (upd (upd (yCp N A).1 q ((yCp N A).1 m)) m ((yCp N A).1 q), G', (yCp N A).2.2.1, (yCp N A).2.2.2)) (U := U) (V := V) (X := X) (S := S) hC) k E (B := N) no.2.1 no.1 (nI w)
  have hv2 : zVd C (upd (upd (zNw X S).1 m ((zNw X S).1 q)) q ((zNw X S).1 m)) := by
    intro p hp
    by_cases z : p = q
    · subst z; rw [upd_s]; exact now_v k no m hm
    · rw [upd_n z]
      by_cases z2 : p = m
      · subst z2; rw [upd_s]; exact now_v k no q hq
      · rw [upd_n z2]; exact now_v k no p hp
  have e4 : sAll C (upd (upd (zNw X S).1 m ((zNw X S).1 q)) q ((zNw X S).1 m)) (zNw X S).2.1 (nI w) = sAll C (upd (upd (yCp N A).1 q ((yCp N A).1 m)) m ((yCp N A).1 q)) (yCp N A).2.2.1 (nI w) := by
    refine sAll_c (fun p hp => ?_) (fun p hp => (now_l k no p hp).trans (cp_l k N A p hp).symm) _
    exact sw_eq u ((now_h k no m hm).trans (cp_h k N A m hm).symm) ((now_h k no q hq).trans (cp_h k N A q hq).symm) ((now_h k no p hp).trans (cp_h k N A p hp).symm)
  refine both (v := (100 + sAll C N.1 N.2.2.1 (nI w) - sAll C (upd (upd (yCp N A).1 q ((yCp N A).1 m)) m ((yCp N A).1 q)) (yCp N A).2.2.1 (nI w))) (h1 := (zmk r c c (c) I J Q N ((upd (upd (yCp N A).1 q ((yCp N A).1 m)) m ((yCp N A).1 q), G', (yCp N A).2.2.1, (yCp N A).2.2.2)) U V X S t)) (h2 := (zmk r c c (c) I J Q N ((upd (upd (yCp N A).1 q ((yCp N A).1 m)) m ((yCp N A).1 q), G', (yCp N A).2.2.1, (yCp N A).2.2.2)) U V X ((upd (upd (zNw X S).1 m ((zNw X S).1 q)) q ((zNw X S).1 m), (zNw X S).2.1, (zNw X S).2.2)) t)) ?_ ?_ (st_mk iv t1 t2)
  · simp only [E_X5_gain_0, mo_0, mg_0_0, mg_0_1, mg_0_2, mg_0_3, mg_0_4, mg_0_5, mg_0_6, mg_0_7, mg_0_8, mg_0_9, mg_0_10, mg_0_11, mo_9, mo_14, Option.bind_some, (hC ..).1, if_true, cr_man (hC ..), e, f, u1, k_when, g, i01, if_false, zcI_some, a_copy, zcV_some, e1, e3, e2]
  · simp only [E_X6_gain_0, mo_49, mg_49_0, mg_49_1, mg_49_2, mg_49_3, mg_49_4, mg_49_5, mg_49_6, mg_49_7, mg_49_8, mg_49_9, mg_49_10, mg_49_11, mg_49_12, mg_49_13, mg_49_14, mg_49_15, mg_49_16, mg_49_17, mg_49_18, mg_49_19, mg_49_20, mg_49_21, mg_49_22, mg_49_23, mg_49_24, mg_49_25, if_true, m_two mv k, e, f, u1, m_when, g, i01, if_false, zcI_some, m_now, zcV_some, m_all mv k (now_v k no), sAll_c (now_h k no) (now_l k no), m_swap (show m < 6 by omega) (show q < 6 by omega)]
    have := m_all (r := r) (c0 := c) (c1 := c) (c2 := c) (I := I) (J := J) (Q := Q) (N := N) (A := (upd (upd (yCp N A).1 q ((yCp N A).1 m)) m ((yCp N A).1 q), G', (yCp N A).2.2.1, (yCp N A).2.2.2)) (V := V) (S := (upd (upd (zNw X S).1 m ((zNw X S).1 q)) q ((zNw X S).1 m), (zNw X S).2.1, (zNw X S).2.2)) (t := t) mv k hv2 (nI w)
    rw [this]
    simp only [zcI_some, e4]
/-- a line tried -/
def yCu (C : zCs) (H L : zA) (m : Nat) (w : Int32) (s : Int32 × Int32) (j : Nat) : Int32 × Int32 := if sAll C H (upd L m (nI (1 + j))) w < s.2 then (nI (1 + j), sAll C H (upd L m (nI (1 + j))) w) else s
theorem lk_cut (E : zEk r) (a w : Int32) {h : zH} (st : zSt r n h) : zBoth r n n (zev r i_X5_cut 0 [some (.ref (r.1 + 0)), some (.int a), some (.int w), none, none, none, none] []) (zev r i_X6_cut 0 [some (.ref (r.1 + 49)), some (.int a), some (.int w), none, none, none, none] []) h := by
  obtain ⟨C, c, c2, I, J, Q, N, A, U, V, X, S, t, rfl, iv, t1, t2⟩ := st
  obtain ⟨k, hC, mv, _, _, _, no, -⟩ := id iv
  have k2 := k.2.1
  rcases zhk_cases C.2.1 (by omega) a with e | ⟨e, m, hm, rfl⟩
  · refine both (v := (-1)) (h1 := (zmk r c c c2 I J Q N A U V X S t)) (h2 := (zmk r c c c2 I J Q N A U V X S t)) ?_ ?_ (st_mk iv t1 t2)
    · simp only [E_X5_cut_0, mo_0, mg_0_0, mg_0_1, mg_0_2, mg_0_3, mg_0_4, mg_0_5, mg_0_6, mg_0_7, mg_0_8, mg_0_9, mg_0_10, mg_0_11, Option.bind_some, (hC ..).1, if_true, cr_man (hC ..), e, zcI_some]
    · simp only [E_X6_cut_0, mo_49, mg_49_0, mg_49_1, mg_49_2, mg_49_3, mg_49_4, mg_49_5, mg_49_6, mg_49_7, mg_49_8, mg_49_9, mg_49_10, mg_49_11, mg_49_12, mg_49_13, mg_49_14, mg_49_15, mg_49_16, mg_49_17, mg_49_18, mg_49_19, mg_49_20, mg_49_21, mg_49_22, mg_49_23, mg_49_24, mg_49_25, if_true, m_man mv k, e, zcI_some]
  rcases zhk_cases 3 (by decide) w with g | ⟨g, w, hw, rfl⟩
  · refine both (v := (-1)) (h1 := (zmk r c c c2 I J Q N A U V X S t)) (h2 := (zmk r c c c2 I J Q N A U V X S t)) ?_ ?_ (st_mk iv t1 t2)
    · simp only [E_X5_cut_0, mo_0, mg_0_0, mg_0_1, mg_0_2, mg_0_3, mg_0_4, mg_0_5, mg_0_6, mg_0_7, mg_0_8, mg_0_9, mg_0_10, mg_0_11, Option.bind_some, (hC ..).1, if_true, cr_man (hC ..), e, k_when, g, i01, if_false, zcI_some]
    · simp only [E_X6_cut_0, mo_49, mg_49_0, mg_49_1, mg_49_2, mg_49_3, mg_49_4, mg_49_5, mg_49_6, mg_49_7, mg_49_8, mg_49_9, mg_49_10, mg_49_11, mg_49_12, mg_49_13, mg_49_14, mg_49_15, mg_49_16, mg_49_17, mg_49_18, mg_49_19, mg_49_20, mg_49_21, mg_49_22, mg_49_23, mg_49_24, mg_49_25, if_true, m_man mv k, e, m_when, g, i01, if_false, zcI_some]
  have h6 : m < 6 := by omega
  have ax := aBx (r := r) (c0 := c) (c1 := c) (I := I) (J := J) (Q := Q) (N := N) (U := U) (V := V) (X := X) (S := S) hC
  -- what all are woken on line v of man m
  have lk : ∀ v, v < 10 → ∀ L : zA, (∀ p, p < C.2.1 → p ≠ m → L p = N.2.2.1 p) → zLk C (upd L m (nI v)) := fun v hv L hL p hp => by
    by_cases z : p = m
    · subst z; rw [upd_s]; exact ⟨v, hv, rfl⟩
    · rw [upd_n z, hL p hp z]; exact no.2.1 p hp
  have much : ∀ v (H L : zA), (∀ p, p < C.2.1 → H p = N.1 p) → (∀ p, p < C.2.1 → p ≠ m → L p = N.2.2.1 p) → sAll C H (upd L m (nI v)) (nI w) = sAll C N.1 (upd N.2.2.1 m (nI v)) (nI w) := fun v H L hH hL => sAll_c hH (fun p hp => by
    by_cases z : p = m
    · subst z; rw [upd_s, upd_s]
    · rw [upd_n z, upd_n z, hL p hp z]) _
  have lim : ∀ v, v < 10 → ∃ x, x ≤ 1200 ∧ sAll C N.1 (upd N.2.2.1 m (nI v)) (nI w) = nI x := fun v hv => lim_sAll k (lk v hv _ fun _ _ _ => rfl) (cg_vd no.1) (nI w)
  have e0 : zev r i_X5_cut 0 [some (.ref (r.1 + 0)), some (.int (nI m)), some (.int (nI w)), none, none, none, none] [] (zmk r c c c2 I J Q N A U V X S t) = zev r i_X5_cut 42 [some (.ref (r.1 + 0)), some (.int (nI m)), some (.int (nI w)), some (.int (-9)), some (.int 1000000), some (.int 1), none] [] (zmk r c c (c) I J Q N (yCp N A) U V X S t) := by
    simp only [E_X5_cut_0, mo_0, mg_0_0, mg_0_1, mg_0_2, mg_0_3, mg_0_4, mg_0_5, mg_0_6, mg_0_7, mg_0_8, mg_0_9, mg_0_10, mg_0_11, mo_14, Option.bind_some, (hC ..).1, if_true, cr_man (hC ..), e, k_when, g, i01, if_false, zcI_some, a_copy, zcV_some]
  have e1 : ∃ A', zev r i_X5_cut 42 [some (.ref (r.1 + 0)), some (.int (nI m)), some (.int (nI w)), some (.int (-9)), some (.int 1000000), some (.int 1), none] [] (zmk r c c (c) I J Q N (yCp N A) U V X S t) = some (some (.int (zfd (yCu C N.1 N.2.2.1 m (nI w)) 0 9 (-9, 1000000)).1), (zmk r c c (c) (va_up I 0 (zfd (yCu C N.1 N.2.2.1 m (nI w)) 0 9 (-9, 1000000)).2) J Q N (A') U V X S t)) := by
    refine zloopS (fun j (s : (Int32 × Int32) × zA) => s.1 = zfd (yCu C N.1 N.2.2.1 m (nI w)) 0 j (-9, 1000000) ∧ ∀ p, p < C.2.1 → p ≠ m → s.2 p = N.2.2.1 p) (fun z => ∃ A', z = some (some (.int (zfd (yCu C N.1 N.2.2.1 m (nI w)) 0 9 (-9, 1000000)).1), (zmk r c c (c) (va_up I 0 (zfd (yCu C N.1 N.2.2.1 m (nI w)) 0 9 (-9, 1000000)).2) J Q N (A') U V X S t))) (fun j (s : (Int32 × Int32) × zA) => zev r i_X5_cut 42 [some (.ref (r.1 + 0)), some (.int (nI m)), some (.int (nI w)), some (.int s.1.1), some (.int s.1.2), some (.int (nI (1 + j))), none] [] (zmk r c c (c) I J Q N (((yCp N A).1, (yCp N A).2.1, s.2, (yCp N A).2.2.2)) U V X S t)) 9 (fun j s hj p => .inr ?_) (fun s p => ?_) ((-9, 1000000), (yCp N A).2.2.1) ⟨rfl, fun p hp _ => cp_l k N A p hp⟩
    · have ea := b_all ax k E (B := ((yCp N A).1, (yCp N A).2.1, upd s.2 m (nI (1 + j)), (yCp N A).2.2.2)) (lk (1 + j) (by omega) _ p.2) (cp_cg k no.1 A) (nI w)
      dsimp only at ea
      rw [much (1 + j) _ _ (cp_h k N A) p.2] at ea
      refine ⟨(yCu C N.1 N.2.2.1 m (nI w) s.1 j, upd s.2 m (nI (1 + j))), ?_, ?_, fun p' hp hn => (upd_n hn).trans (p.2 p' hp hn)⟩
      · refine (E_X5_cut_42 ..).trans ?_
        simp only [if_neg (show ¬ (9 : Int32) < nI (1 + j) from nI_nlt (b := 1 + j) (a := 9) (by omega) (by decide)), mo_0, mg_0_0, mg_0_1, mg_0_2, mg_0_3, mg_0_4, mg_0_5, mg_0_6, mg_0_7, mg_0_8, mg_0_9, mg_0_10, mg_0_11, mg_14_3, Option.bind_some, mw_17 h6, mo_14, if_true, ea, zcI_some, nI_1, show 1 + j + 1 = 1 + (j + 1) by omega, yCu]
        split <;> rfl
      · dsimp only
        rw [zfd_succ, Nat.zero_add, p.1]
    · refine ⟨((yCp N A).1, (yCp N A).2.1, s.2, (yCp N A).2.2.2), (E_X5_cut_42 ..).trans ?_⟩
      simp only [if_pos (show (9 : Int32) < nI (1 + 9) by decide), mo_0, mg_0_0, mg_0_1, mg_0_2, mg_0_3, mg_0_4, mg_0_5, mg_0_6, mg_0_7, mg_0_8, mg_0_9, mg_0_10, mg_0_11, if_true, k_tell, zcV_some, p.1]
  have e2 : ∀ (I : zA) (A : zBr), ∃ S', zev r i_X6_cut 0 [some (.ref (r.1 + 49)), some (.int (nI m)), some (.int (nI w)), none, none, none, none] [] (zmk r c c (c) I J Q N A U V X S t) = some (some (.int (zfd (yCu C N.1 N.2.2.1 m (nI w)) 0 9 (-9, 1000000)).1), (zmk r c c (c) I J Q N A (va_up U 2 (zfd (yCu C N.1 N.2.2.1 m (nI w)) 0 9 (-9, 1000000)).2) V X (S') t)) := by
    intro I A
    simp only [E_X6_cut_0, mo_49, mg_49_0, mg_49_1, mg_49_2, mg_49_3, mg_49_4, mg_49_5, mg_49_6, mg_49_7, mg_49_8, mg_49_9, mg_49_10, mg_49_11, mg_49_12, mg_49_13, mg_49_14, mg_49_15, mg_49_16, mg_49_17, mg_49_18, mg_49_19, mg_49_20, mg_49_21, mg_49_22, mg_49_23, mg_49_24, mg_49_25, if_true, m_man mv k, e, m_when, g, i01, if_false, zcI_some, m_now, zcV_some]
    suffices key : ∃ S', zev r i_X6_cut 27 [some (.ref (r.1 + 49)), some (.int (nI m)), some (.int (nI w)), some (.int (-9)), some (.int (nI (1 + 0))), none, none] [] (zmk r c c (c) I J Q N A (va_up U 2 (U 2)) V X (((zNw X S).1, (zNw X S).2.1, (zNw X S).2.2)) t) = some (some (.int (zfd (yCu C N.1 N.2.2.1 m (nI w)) 0 9 (-9, 1000000)).1), (zmk r c c (c) I J Q N A (va_up U 2 (zfd (yCu C N.1 N.2.2.1 m (nI w)) 0 9 (-9, 1000000)).2) V X (S') t)) by
      rw [va_self] at key
      exact key
    refine zloopS (fun j (s : (Int32 × Int32) × zA) => ((j = 0 ∧ s.1.1 = -9) ∨ (0 < j ∧ ¬ s.1.1 = -9 ∧ s.1 = zfd (yCu C N.1 N.2.2.1 m (nI w)) 0 j (-9, 1000000))) ∧ ∀ p, p < C.2.1 → p ≠ m → s.2 p = N.2.2.1 p) (fun z => ∃ S', z = some (some (.int (zfd (yCu C N.1 N.2.2.1 m (nI w)) 0 9 (-9, 1000000)).1), (zmk r c c (c) I J Q N A (va_up U 2 (zfd (yCu C N.1 N.2.2.1 m (nI w)) 0 9 (-9, 1000000)).2) V X (S') t))) (fun j (s : (Int32 × Int32) × zA) => zev r i_X6_cut 27 [some (.ref (r.1 + 49)), some (.int (nI m)), some (.int (nI w)), some (.int s.1.1), some (.int (nI (1 + j))), none, none] [] (zmk r c c (c) I J Q N A (va_up U 2 s.1.2) V X (((zNw X S).1, s.2, (zNw X S).2.2)) t)) 9 (fun j s hj p => .inr ?_) (fun s p => ?_) ((-9, U 2), (zNw X S).2.1) ⟨.inl ⟨rfl, rfl⟩, fun p hp _ => now_l k no p hp⟩
    · obtain ⟨x, hx, ex⟩ := lim (1 + j) (by omega)
      have mvs : zMv C (va_up U 2 s.1.2) X := zMv_c mv (va_ne (by decide)) (va_ne (by decide)) rfl rfl rfl rfl
      have ea := m_all (r := r) (c0 := c) (c1 := c) (c2 := c) (I := I) (J := J) (Q := Q) (N := N) (A := A) (V := V) (S := ((zNw X S).1, upd s.2 m (nI (1 + j)), (zNw X S).2.2)) (t := t) mvs k (now_v k no) (nI w)
      dsimp only at ea
      rw [much (1 + j) _ _ (now_h k no) p.2] at ea
      by_cases b9 : s.1.1 = -9
      · have j0 : j = 0 := by
          rcases p.1 with ⟨z, -⟩ | ⟨-, z, -⟩
          · exact z
          · exact absurd b9 z
        subst j0
        refine ⟨((nI 1, sAll C N.1 (upd N.2.2.1 m (nI (1 + 0))) (nI w)), upd s.2 m (nI (1 + 0))), ?_, .inr ⟨by decide, show ¬ nI 1 = -9 by decide, ?_⟩, fun p' hp hn => (upd_n hn).trans (p.2 p' hp hn)⟩
        · refine (E_X6_cut_27 ..).trans ?_
          simp only [show nI (1 + 0) < 10 by decide, if_true, mo_49, mg_49_0, mg_49_1, mg_49_2, mg_49_3, mg_49_4, mg_49_5, mg_49_6, mg_49_7, mg_49_8, mg_49_9, mg_49_10, mg_49_11, mg_49_12, mg_49_13, mg_49_14, mg_49_15, mg_49_16, mg_49_17, mg_49_18, mg_49_19, mg_49_20, mg_49_21, mg_49_22, mg_49_23, mg_49_24, mg_49_25, Option.bind_some, mw_63 h6, ea, zcI_some, b9, E_X6_cut_69, i01, if_false, mp_49_11, bx_uu, nI_1]
        · show (nI 1, sAll C N.1 (upd N.2.2.1 m (nI (1 + 0))) (nI w)) = yCu C N.1 N.2.2.1 m (nI w) (-9, 1000000) 0
          unfold yCu
          rw [if_pos (by rw [ex]; exact nI_lt (b := 1000000) (by omega) (by decide))]
      · have p1 : 0 < j ∧ s.1 = zfd (yCu C N.1 N.2.2.1 m (nI w)) 0 j (-9, 1000000) := by
          rcases p.1 with ⟨-, z⟩ | ⟨z, -, z2⟩
          · exact absurd z b9
          · exact ⟨z, z2⟩
        refine ⟨(yCu C N.1 N.2.2.1 m (nI w) s.1 j, upd s.2 m (nI (1 + j))), ?_, .inr ⟨by omega, ?_, ?_⟩, fun p' hp hn => (upd_n hn).trans (p.2 p' hp hn)⟩
        · refine (E_X6_cut_27 ..).trans ?_
          simp only [if_pos (show nI (1 + j) < 10 from nI_lt (b := 10) (by omega) (by decide)), mo_49, mg_49_0, mg_49_1, mg_49_2, mg_49_3, mg_49_4, mg_49_5, mg_49_6, mg_49_7, mg_49_8, mg_49_9, mg_49_10, mg_49_11, mg_49_12, mg_49_13, mg_49_14, mg_49_15, mg_49_16, mg_49_17, mg_49_18, mg_49_19, mg_49_20, mg_49_21, mg_49_22, mg_49_23, mg_49_24, mg_49_25, Option.bind_some, mw_63 h6, if_true, ea, zcI_some, b9, if_false, va_same, E_X6_cut_69, i01, mp_49_11, bx_uu, nI_1, show 1 + j + 1 = 1 + (j + 1) by omega, yCu]
          split <;> rfl
        · show ¬ (yCu C N.1 N.2.2.1 m (nI w) s.1 j).1 = -9
          unfold yCu
          split
          · exact nI_n9 (by omega)
          · exact b9
        · dsimp only
          rw [zfd_succ, Nat.zero_add, ← p1.2]
    · rcases p.1 with ⟨z, -⟩ | ⟨-, -, z⟩
      · exact absurd z (by decide)
      · refine ⟨((zNw X S).1, s.2, (zNw X S).2.2), (E_X6_cut_27 ..).trans ?_⟩
        rw [if_neg (show ¬ nI (1 + 9) < 10 by decide), z]
  obtain ⟨A', e1⟩ := e1
  obtain ⟨S', e2⟩ := e2 (va_up I 0 (zfd (yCu C N.1 N.2.2.1 m (nI w)) 0 9 (-9, 1000000)).2) A'
  exact both (e0.trans e1) e2 (st_mk (iv_tell _ iv) t1 t2)
end ASIDE
