/-! MATES: both alike -/
def ySu (f : Nat → Int32) (n : Nat) : Int32 := zfd (fun a i => a + f i) 0 n 0
theorem su_acc (f : Nat → Int32) (n : Nat) (a : Int32) : zfd (fun a i => a + f i) 0 n a = a + ySu f n := zfd_acc (op := fun a b => a + b) Int32.add_assoc (fun a => by simp) Int32.add_comm
theorem su_succ (f : Nat → Int32) (n : Nat) : ySu f (n + 1) = ySu f n + f n := by
  unfold ySu
  rw [zfd_succ, Nat.zero_add]
theorem su_c {f g : Nat → Int32} {n : Nat} (h : ∀ i, i < n → f i = g i) : ySu f n = ySu g n := zfd_congr fun s i _ hi => by rw [h i (by omega)]
theorem su_zero {f : Nat → Int32} {n : Nat} (h : ∀ i, i < n → f i = 0) : ySu f n = 0 := zfd_zero (op := fun a b => a + b) (fun a => by simp) fun i _ hi => h i (by omega)
theorem su_add (f g : Nat → Int32) : ∀ n : Nat, ySu (fun i => f i + g i) n = ySu f n + ySu g n
  | 0 => rfl
  | n + 1 => by
    rw [su_succ, su_succ, su_succ, su_add f g n]
    generalize ySu f n = a
    generalize ySu g n = b
    rw [Int32.add_assoc, Int32.add_assoc, ← Int32.add_assoc b, Int32.add_comm b (f n), Int32.add_assoc (f n)]
theorem su_swap (f : Nat → Nat → Int32) (m : Nat) : ∀ n : Nat, ySu (fun i => ySu (fun j => f i j) m) n = ySu (fun j => ySu (fun i => f i j) n) m
  | 0 => (su_zero fun _ _ => rfl).symm
  | n + 1 => by
    rw [su_succ, su_swap f m n, ← su_add]
    exact su_c fun j _ => (su_succ _ _).symm
theorem su_one {f : Nat → Int32} {n i : Nat} (hi : i < n) (h : ∀ k, k < n → k ≠ i → f k = 0) : ySu f n = f i := zfd_one (op := fun a b => a + b) (fun a => by simp) Int32.add_comm (Nat.zero_le _) (by omega) fun k _ hk hn => h k (by omega) hn
theorem su_tri (a : Nat → Nat → Int32) (h0 : ∀ m, a m m = 0) : ∀ n : Nat, ySu (fun m => ySu (fun q => a m q + a q m) m) n = ySu (fun m => ySu (fun q => a m q) n) n
  | 0 => rfl
  | n + 1 => by
    rw [su_succ, su_tri a h0 n, su_succ, su_add]
    rw [su_c (f := fun m => ySu (fun q => a m q) (n + 1)) (g := fun m => ySu (fun q => a m q) n + a m n) fun m _ => su_succ _ _, su_add, su_succ, h0]
    generalize ySu (fun m => ySu (fun q => a m q) n) n = s
    rw [Int32.add_zero, Int32.add_assoc, Int32.add_comm (ySu (fun q => a n q) n)]
section MATES
variable {r : zE} {c0 c1 c2 : Nat} {I : Nat → Int32} {J : Nat → Int64} {Q : Nat → Nat → Int32} {N A : zBr} {U : Nat → Int32} {V : Nat → Int64} {X : Nat → Nat → Int32} {S : zSs} {t : zH} {C : zCs} {c n : Nat}
/-- two side by side, the second behind the first, of one mess -/
def yAd (C : zCs) (H : zA) (m q : Nat) : Int32 := if C.2.2.2.2.2 m = C.2.2.2.2.2 q ∧ ¬ H m = -9 ∧ ¬ H q = -9 ∧ H q = H m + 1 then 1 else 0
theorem yAd_self (H : zA) (m : Nat) : yAd C H m m = 0 := by
  unfold yAd
  rw [if_neg]
  rintro ⟨-, -, -, h⟩
  have := i32_sub1.mpr h
  rw [Int32.sub_self] at this
  exact absurd this (by decide)
theorem yAd_two {H : zA} {m q : Nat} : (if C.2.2.2.2.2 m = C.2.2.2.2.2 q then if sBes C H q m 0 = 0 then (0 : Int32) else 1 else 0) = yAd C H m q + yAd C H q m := by
  unfold yAd sBes sIn
  by_cases e : C.2.2.2.2.2 m = C.2.2.2.2.2 q
  · by_cases h1 : H m = -9
    · simp [e, h1]
    · by_cases h2 : H q = -9
      · simp [e, h1, h2]
      · by_cases h3 : H q = H m + 1
        · have h4 : ¬ H m = H q + 1 := fun w => by
            have : H m - H q = 1 := i32_sub1.mpr w
            have h5 : H m - H q = -1 := i32_subm.mpr (by rw [h3, Int32.add_sub_cancel])
            rw [this] at h5
            exact absurd h5 (by decide)
          have h6 : H q - H m = 1 := i32_sub1.mpr h3
          rw [if_pos e, if_neg h1, if_pos rfl, if_neg h2, if_neg i01, if_pos h6, if_neg i01, if_pos ⟨e, h1, h2, h3⟩, if_neg (fun w => h4 w.2.2.2)]
          rfl
        · by_cases h4 : H m = H q + 1
          · have h6 : H q - H m = -1 := i32_subm.mpr (by rw [h4, Int32.add_sub_cancel])
            have h7 : ¬ H q - H m = 1 := fun w => h3 (i32_sub1.mp w)
            rw [if_pos e, if_neg h1, if_pos rfl, if_neg h2, if_neg i01, if_neg h7, if_pos h6, if_neg i01, if_neg (fun w => h3 w.2.2.2), if_pos ⟨e.symm, h2, h1, h4⟩]
            rfl
          · have h6 : ¬ H q - H m = -1 := fun w => h4 (by rw [i32_subm.mp w, Int32.sub_add_cancel])
            have h7 : ¬ H q - H m = 1 := fun w => h3 (i32_sub1.mp w)
            rw [if_pos e, if_neg h1, if_pos rfl, if_neg h2, if_neg i01, if_neg h7, if_neg h6, if_pos rfl, if_neg (fun w => h3 w.2.2.2), if_neg (fun w => h4 w.2.2.2)]
            rfl
  · have e' : ¬ C.2.2.2.2.2 q = C.2.2.2.2.2 m := fun w => e w.symm
    simp [e, e']
theorem mates_ad (H : zA) : sMates C H = ySu (fun m => ySu (fun q => yAd C H m q) C.2.1) C.2.1 := by
  unfold sMates
  rw [← su_tri (yAd C H) (yAd_self H)]
  unfold ySu
  refine zfd_congr fun s m _ _ => ?_
  rw [su_acc]
  congr 1
  exact su_c fun q _ => yAd_two
/-- what two hooks side by side bring -/
def yPr (C : zCs) (G : zA) (h : Nat) : Int32 := if zhk C.2.1 (G h) = 0 then 0 else if zhk C.2.1 (G (h + 1)) = 0 then 0 else if C.2.2.2.2.2 (G h).toNatClampNeg = C.2.2.2.2.2 (G (h + 1)).toNatClampNeg then 1 else 0
theorem mates_pr (k : zCk C) {H G : zA} (g : zCG C H G) : ySu (fun m => ySu (fun q => yAd C H m q) C.2.1) C.2.1 = ySu (yPr C G) (C.1 - 1) := by
  have k1 := k.1
  have k2 := k.2.1
  -- by the hook of the first
  have e1 : ySu (fun m => ySu (fun q => yAd C H m q) C.2.1) C.2.1 = ySu (fun m => ySu (fun h => if H m = nI h then ySu (fun q => yAd C H m q) C.2.1 else 0) C.1) C.2.1 := su_c fun m hm => by
    rcases g.1 m hm with z | ⟨j, a1, a2, -⟩
    · rw [su_zero fun q _ => by unfold yAd; rw [if_neg fun w => w.2.1 z]]
      exact (su_zero fun h _ => ite_self _).symm
    · rw [su_one a1 fun h hh hn => if_neg fun w => hn ((nI_eq (by omega) (by omega)).mp (w.symm.trans a2)), if_pos a2]
  rw [e1, su_swap]
  have e2 : ∀ h, h < C.1 → ySu (fun m => if H m = nI h then ySu (fun q => yAd C H m q) C.2.1 else 0) C.2.1 = if h + 1 < C.1 then yPr C G h else 0 := fun h hh => by
    unfold yPr
    rcases g.2 h hh with z | ⟨m, a1, a2, a3⟩
    · rw [z, zhk_none, if_pos rfl, ite_self]
      refine su_zero fun m hm => if_neg fun w => ?_
      rcases g.1 m hm with y | ⟨j, b1, b2, b3⟩
      · exact nI_n9 (show h < 2 ^ 31 by omega) (w.symm.trans y)
      · have : j = h := (nI_eq (by omega) (by omega)).mp (b2.symm.trans w)
        subst this
        exact nI_n9 (show m < 2 ^ 31 by omega) (b3.symm.trans z)
    · have hm9 : ¬ H m = -9 := by rw [a3]; exact nI_n9 (by omega)
      rw [su_one a1 fun q hq hn => if_neg fun w => hn (zCG_inj g k hq a1 hh w a3), if_pos a3, a2, zhk_in a1 (by omega), if_neg i01, nI_clamp (show m < 2 ^ 31 by omega)]
      by_cases hl : h + 1 < C.1
      · rw [if_pos hl]
        rcases g.2 (h + 1) hl with z | ⟨q, b1, b2, b3⟩
        · rw [z, zhk_none, if_pos rfl]
          refine su_zero fun q hq => ?_
          unfold yAd
          rw [if_neg]
          rintro ⟨-, -, -, w⟩
          rw [a3, nI_1] at w
          rcases g.1 q hq with y | ⟨j, c1, c2, c3⟩
          · exact nI_n9 (show h + 1 < 2 ^ 31 by omega) (w.symm.trans y)
          · have : j = h + 1 := (nI_eq (by omega) (by omega)).mp (c2.symm.trans w)
            subst this
            exact nI_n9 (show q < 2 ^ 31 by omega) (c3.symm.trans z)
        · rw [b2, zhk_in b1 (by omega), if_neg i01, nI_clamp (show q < 2 ^ 31 by omega)]
          have hq9 : ¬ H q = -9 := by rw [b3]; exact nI_n9 (by omega)
          rw [su_one b1 fun p hp hn => by
            unfold yAd
            rw [if_neg]
            rintro ⟨-, -, -, w⟩
            rw [a3, nI_1] at w
            exact hn (zCG_inj g k hp b1 hl w b3)]
          unfold yAd
          by_cases e : C.2.2.2.2.2 m = C.2.2.2.2.2 q
          · rw [if_pos ⟨e, hm9, hq9, by rw [a3, b3, nI_1]⟩, if_pos e]
          · rw [if_neg fun w => e w.1, if_neg e]
      · rw [if_neg hl]
        refine su_zero fun q hq => ?_
        unfold yAd
        rw [if_neg]
        rintro ⟨-, -, -, w⟩
        rw [a3, nI_1] at w
        rcases g.1 q hq with y | ⟨j, c1, c2, -⟩
        · exact nI_n9 (show h + 1 < 2 ^ 31 by omega) (w.symm.trans y)
        · have : j = h + 1 := (nI_eq (by omega) (by omega)).mp (c2.symm.trans w)
          omega
  rw [su_c e2]
  cases hN : C.1 with
  | zero => rfl
  | succ N =>
    rw [su_succ, if_neg (by omega), Int32.add_zero, Nat.add_sub_cancel]
    exact su_c fun h hh => if_pos (by omega)
theorem b_mates {x : Nat} {F : zBr → zH} {B : zBr} (b : zBx r x c C F) (k : zCk C) (g : zCG C B.1 B.2.1) : zev r i_X0_messmatePairs 0 [some (.ref x), none, none, none, none] [] (F B) = some (some (.int (sMates C B.1)), F B) := by
  have k1 := k.1
  have k2 := k.2.1
  rw [mates_ad, mates_pr k g, E_X0_messmatePairs_0]
  obtain ⟨v, o, g0, -, g2, -, -, -, r2, -⟩ := id (b B)
  obtain ⟨-, vH, -, -, -, -, v6, -, -, -, rm⟩ := id v
  refine zloop (fun h (a : Int32) => zev r i_X0_messmatePairs 4 [some (.ref x), some (.int a), some (.int (nI h)), none, none] [] (F B)) (fun a => some (some (.int a), F B)) _ (C.1 - 1) (fun h a hh => ?_) (fun a => ?_) 0
  · refine (E_X0_messmatePairs_4 ..).trans ?_
    simp only [g0, vH, Option.bind_some, nI_1, if_pos (nI_lt (show h + 1 < C.1 by omega) (show C.1 < 2 ^ 31 by omega)), g2, r2 h (show h < 7 by omega), r2 (h + 1) (show h + 1 < 7 by omega), v.1, if_true, cr_man v, zcI_some]
    unfold yPr
    rcases zhk_cases C.2.1 (by omega) (B.2.1 h) with e | ⟨e, m, hm, em⟩
    · simp only [e, if_true, Int32.add_zero]
    · rcases zhk_cases C.2.1 (by omega) (B.2.1 (h + 1)) with f | ⟨f, q, hq, eq⟩
      · simp only [e, f, i01, if_true, if_false, Int32.add_zero, g0, v.1, Option.bind_some, cr_man v, zcI_some]
      · have cm := nI_clamp (show m < 2 ^ 31 by omega)
        have cq := nI_clamp (show q < 2 ^ 31 by omega)
        rw [em] at e
        rw [eq] at f
        simp only [em, eq, e, f, i01, if_true, if_false, g0, v.1, Option.bind_some, cr_man v, zcI_some, v6, rm m hm, rm q hq, cm, cq]
        by_cases z : C.2.2.2.2.2 m = C.2.2.2.2.2 q
        · rw [if_pos z, if_pos z]
        · rw [if_neg z, if_neg z, Int32.add_zero]
  · refine (E_X0_messmatePairs_4 ..).trans ?_
    have : ¬ nI (C.1 - 1 + 1) < nI C.1 := by
      by_cases z : C.1 = 0
      · rw [z]; decide
      · rw [show C.1 - 1 + 1 = C.1 by omega]; exact nI_nlt (Nat.le_refl _) (by omega)
    simp only [g0, vH, Option.bind_some, nI_1, if_neg this]
def yMm (C : zCs) (a : Int32) (p : List Nat) : Int32 := if a < sMates C (yPl p) then sMates C (yPl p) else a
theorem lk_mates {h : zH} (st : zSt r n h) : zBoth r n n (zev r i_X5_mates 0 [some (.ref (r.1 + 0)), none, none] []) (zev r i_X6_mates 0 [some (.ref (r.1 + 49)), none, none, none] []) h := by
  obtain ⟨C, c, c2, I, J, Q, N, A, U, V, X, S, t, rfl, iv, t1, t2⟩ := st
  obtain ⟨k, hC, mv, to, ro, te, no, lo, ke⟩ := id iv
  by_cases m0 : nI C.2.1 = 0
  · refine both (v := (-4)) (h1 := (zmk r c c c2 I J Q N A U V X S t)) (h2 := (zmk r c c c2 I J Q N A U V X S t)) ?_ ?_ (st_mk iv t1 t2)
    · simp only [E_X5_mates_0, mo_0, mg_0_0, mg_0_1, mg_0_2, mg_0_3, mg_0_4, mg_0_5, mg_0_6, mg_0_7, mg_0_8, mg_0_9, mg_0_10, mg_0_11, (hC ..).2.2.1, Option.bind_some, m0, if_true]
    · simp only [E_X6_mates_0, mo_49, mg_49_0, mg_49_1, mg_49_2, mg_49_3, mg_49_4, mg_49_5, mg_49_6, mg_49_7, mg_49_8, mg_49_9, mg_49_10, mg_49_11, mg_49_12, mg_49_13, mg_49_14, mg_49_15, mg_49_16, mg_49_17, mg_49_18, mg_49_19, mg_49_20, mg_49_21, mg_49_22, mg_49_23, mg_49_24, mg_49_25, Option.bind_some, mv.2.1, m0, if_true]
  have k3 := k.2.2.1
  have hN : 0 < C.1 := by
    refine Nat.lt_of_lt_of_le (Nat.pos_of_ne_zero fun q => m0 ?_) k3
    rw [q]; rfl
  have lp := (yPs_len k).2
  obtain ⟨A0, e0, ao⟩ := a_begin (c2 := c2) (I := I) (J := J) (Q := Q) (A := A) (U := U) (V := V) (S := S) k hC no
  obtain ⟨A1, e1, -⟩ := c_all k N.2.2.1 (fun n (a : Int32) A => zev r i_X5_mates 27 [some (.ref (r.1 + 0)), some (.int a), some (.int (nI n))] [] (zmk r c c (c) I J Q N A U V X S t)) (yMm C) (fun _ => True) (fun n a A p _ hn hp ao => by
    have ax := aBx (r := r) (c0 := c) (c1 := c) (I := I) (J := J) (Q := Q) (N := N) (U := U) (V := V) (X := X) (S := S) hC
    have ea := b_mates ax k (B := A) ao.1
    rw [sMates_c (hx_pl ao.2.1)] at ea
    obtain ⟨A', en, h1, h2, h3⟩ := a_next (c0 := c) (c1 := c) (I := I) (J := J) (Q := Q) (N := N) (A := A) (U := U) (V := V) (X := X) (S := S) k hC ao
    refine ⟨trivial, A', ?_, h1, h2, h3⟩
    refine (E_X5_mates_27 ..).trans ?_
    simp only [if_pos (show (0 : Int32) < nI (n + 1) from nI_lt (a := 0) (by omega) (by omega)), mo_0, mg_0_0, mg_0_1, mg_0_2, mg_0_3, mg_0_4, mg_0_5, mg_0_6, mg_0_7, mg_0_8, mg_0_9, mg_0_10, mg_0_11, mo_14, Option.bind_some, if_true, ea, zcI_some, en, zcV_some, pk_m1]
    rfl) 0 A0 trivial ao
  generalize hT : (yPs C).foldl (yMm C) 0 = T at e1
  have ec : zev r i_X5_mates 0 [some (.ref (r.1 + 0)), none, none] [] (zmk r c c c2 I J Q N A U V X S t) = some (some (.int (sMates C N.1)), (zmk r c c (c) (va_up I 0 T) J Q N (A1) U V X S t)) := by
    have bx := nBx (r := r) (c0 := c) (c2 := c) (I := va_up I 0 T) (J := J) (Q := Q) (A := A1) (U := U) (V := V) (X := X) (S := S) hC
    simp only [E_X5_mates_0, mo_0, mg_0_0, mg_0_1, mg_0_2, mg_0_3, mg_0_4, mg_0_5, mg_0_6, mg_0_7, mg_0_8, mg_0_9, mg_0_10, mg_0_11, (hC ..).1, (hC ..).2.2.1, Option.bind_some, m0, if_false, if_true, e0, zcV_some, cr_plans (hC ..) k, sPlans_eq k, zcI_some]
    refine e1.trans ?_
    refine (E_X5_mates_27 ..).trans ?_
    simp only [if_neg (show ¬ (0 : Int32) < nI 0 by decide), mo_0, mg_0_0, mg_0_1, mg_0_2, mg_0_3, mg_0_4, mg_0_5, mg_0_6, mg_0_7, mg_0_8, mg_0_9, mg_0_10, mg_0_11, mo_9, if_true, k_tell, zcV_some, Option.bind_some, b_mates bx k (B := N) no.1, zcI_some]
  have em : ∃ S', zev r i_X6_mates 0 [some (.ref (r.1 + 49)), none, none, none] [] (zmk r c c (c) (va_up I 0 T) J Q N (A1) U V X S t) = some (some (.int (sMates C N.1)), (zmk r c c (c) (va_up I 0 T) J Q N (A1) (va_up U 2 T) V X (S') t)) := by
    generalize va_up I 0 T = I'
    have mvu : ∀ v, zMv C (va_up U 2 v) X := fun v => zMv_c mv (va_ne (by decide)) (va_ne (by decide)) rfl rfl rfl rfl
    obtain ⟨H0, f0, h0⟩ := m_first (r := r) (S := zNw X S) (mvu 0) k no
    obtain ⟨H1, e2, -⟩ := m_all' k hN (fun (a : Int32) H => zev r i_X6_mates 30 [some (.ref (r.1 + 49)), some (.int (sMates C N.1)), some (.int 1), none] [] (zmk r c c (c) (I') J Q N (A1) (va_up U 2 a) V X ((H, (zNw X (zNw X S)).2)) t)) (fun (a : Int32) H => zev r i_X6_mates 30 [some (.ref (r.1 + 49)), some (.int (sMates C N.1)), some (.int 0), none] [] (zmk r c c (c) (I') J Q N (A1) (va_up U 2 a) V X ((H, (zNw X (zNw X S)).2)) t)) (yMm C) (fun _ => True) (fun a H p l _ hp hb hn hr hbl => by
      have ea := m_mates (r := r) (c0 := c) (c1 := c) (c2 := c) (I := I') (J := J) (Q := Q) (N := N) (A := A1) (V := V) (S := (H, (zNw X (zNw X S)).2)) (t := t) (mvu a) k
      dsimp only at ea
      rw [sMates_c (hx_pl hp)] at ea
      obtain ⟨H', en, hn'⟩ := m_go (r := r) (c0 := c) (c1 := c) (c2 := c) (I := I') (J := J) (Q := Q) (N := N) (A := A1) (V := V) (S := zNw X (zNw X S)) (t := t) (mvu (yMm C a p)) k hp hr hbl
      refine ⟨trivial, H', ?_⟩
      have st : zev r i_X6_mates 30 [some (.ref (r.1 + 49)), some (.int (sMates C N.1)), some (.int 1), none] [] (zmk r c c (c) (I') J Q N (A1) (va_up U 2 a) V X ((H, (zNw X (zNw X S)).2)) t) = zev r i_X6_mates 30 [some (.ref (r.1 + 49)), some (.int (sMates C N.1)), some (.int (match l.find? (fun q => decide q.Nodup) with | some _ => 1 | none => 0)), none] [] (zmk r c c (c) (I') J Q N (A1) (va_up U 2 (yMm C a p)) V X ((H', (zNw X (zNw X S)).2)) t) := by
        refine (E_X6_mates_30 ..).trans ?_
        simp only [i01, if_false, mo_49, mg_49_0, mg_49_1, mg_49_2, mg_49_3, mg_49_4, mg_49_5, mg_49_6, mg_49_7, mg_49_8, mg_49_9, mg_49_10, mg_49_11, mg_49_12, mg_49_13, mg_49_14, mg_49_15, mg_49_16, mg_49_17, mg_49_18, mg_49_19, mg_49_20, mg_49_21, mg_49_22, mg_49_23, mg_49_24, mg_49_25, if_true, ea, zcI_some, Option.bind_some, va_same]
        unfold yMm at en ⊢
        by_cases z : a < sMates C (yPl p)
        · rw [if_pos z] at en ⊢
          rw [if_pos z]
          simp only [mp_49_11, bx_uu, Option.bind_some, mo_49, mg_49_0, mg_49_1, mg_49_2, mg_49_3, mg_49_4, mg_49_5, mg_49_6, mg_49_7, mg_49_8, mg_49_9, mg_49_10, mg_49_11, mg_49_12, mg_49_13, mg_49_14, mg_49_15, mg_49_16, mg_49_17, mg_49_18, mg_49_19, mg_49_20, mg_49_21, mg_49_22, mg_49_23, mg_49_24, mg_49_25, if_true, en, zcI_some]
          rfl
        · rw [if_neg z] at en ⊢
          rw [if_neg z]
          simp only [mp_49_11, bx_uu, Option.bind_some, mo_49, mg_49_0, mg_49_1, mg_49_2, mg_49_3, mg_49_4, mg_49_5, mg_49_6, mg_49_7, mg_49_8, mg_49_9, mg_49_10, mg_49_11, mg_49_12, mg_49_13, mg_49_14, mg_49_15, mg_49_16, mg_49_17, mg_49_18, mg_49_19, mg_49_20, mg_49_21, mg_49_22, mg_49_23, mg_49_24, mg_49_25, if_true, en, zcI_some]
          rfl
      refine ⟨fun z hz => ?_, fun hz => ?_⟩
      · rw [hz] at st
        exact ⟨st, hn' z hz⟩
      · rw [hz] at st
        exact st) 0 H0 trivial h0
    rw [hT] at e2
    refine ⟨(H1, (zNw X (zNw X S)).2), ?_⟩
    have f1 := f0 c c c I' J Q N A1 V t
    have ms := m_mates (r := r) (c0 := c) (c1 := c) (c2 := c) (I := I') (J := J) (Q := Q) (N := N) (A := A1) (V := V) (S := zNw X S) (t := t) mv k
    rw [sMates_c (now_h k no)] at ms
    simp only [E_X6_mates_0, mo_49, mg_49_0, mg_49_1, mg_49_2, mg_49_3, mg_49_4, mg_49_5, mg_49_6, mg_49_7, mg_49_8, mg_49_9, mg_49_10, mg_49_11, mg_49_12, mg_49_13, mg_49_14, mg_49_15, mg_49_16, mg_49_17, mg_49_18, mg_49_19, mg_49_20, mg_49_21, mg_49_22, mg_49_23, mg_49_24, mg_49_25, Option.bind_some, mv.2.1, m0, if_false, if_true, m_now, zcV_some, ms, zcI_some, mp_49_11, f1]
    refine e2.trans ?_
    refine (E_X6_mates_30 ..).trans ?_
    rw [if_pos rfl]
  obtain ⟨S', em⟩ := em
  exact both ec em (st_mk (iv_tell T iv) t1 t2)
end MATES
