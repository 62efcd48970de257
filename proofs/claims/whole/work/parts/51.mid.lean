/-! MID: both alike -/
section MID
variable {r : zE} {c0 c1 c2 : Nat} {I : Nat → Int32} {J : Nat → Int64} {Q : Nat → Nat → Int32} {N A : zBr} {U : Nat → Int32} {V : Nat → Int64} {X : Nat → Nat → Int32} {S : zSs} {t : zH} {C : zCs} {c n : Nat}
theorem lg_0 {a : Int64} : lg_cmp a 0 = 0 ↔ a = 0 := by
  unfold lg_cmp
  by_cases c : a > 0
  · rw [if_pos c]
    exact ⟨fun q => absurd q (by decide), fun q => by subst q; exact absurd c Int64.lt_irrefl⟩
  · rw [if_neg c]
    by_cases c2 : a = 0
    · rw [if_pos c2]; exact ⟨fun _ => c2, fun _ => rfl⟩
    · rw [if_neg c2]; exact ⟨fun q => absurd q (by decide), fun q => absurd q c2⟩
theorem lN_z {n : Nat} (h : n < 2 ^ 63) : lN n = 0 ↔ n = 0 := pk_lEQ (b := 0) h (by decide)
theorem k_gcd (r : zE) (h : zH) (u1 u2 : Int64) : ∀ (b x y k : Nat), x < 2 ^ 62 → y < 2 ^ b → b ≤ 60 → k + 2 * b + 1 ≤ 130 → zev r i_X5_commonDivisor 9 [some (.long u1), none, some (.long u2), none, some (.long (lN x)), none, some (.long (lN y)), none, some (.int (nI k)), none, none] [] h = some (some (.long (lN (Nat.gcd y x))), h) := by
  have fin : ∀ x k : Nat, x < 2 ^ 62 → k < 130 → zev r i_X5_commonDivisor 9 [some (.long u1), none, some (.long u2), none, some (.long (lN x)), none, some (.long (lN 0)), none, some (.int (nI k)), none, none] [] h = some (some (.long (lN x)), h) := fun x k hx hk => by
    refine (E_X5_commonDivisor_9 ..).trans ?_
    rw [if_pos (show nI k < 130 from nI_lt (b := 130) hk (by decide)), if_pos (lg_0.mpr (show lN 0 = 0 from rfl))]
    have : (if (0 : Int64) < lN x then lN x else -lN x) = lN x := by
      by_cases q : x = 0
      · subst q; rfl
      · rw [if_pos (show (0 : Int64) < lN x from (pk_lLT (a := 0) (b := x) (by decide) (by omega)).mpr (by omega))]
    rw [this]
  have one : ∀ x y k : Nat, x < 2 ^ 62 → y < 2 ^ 62 → ¬ y = 0 → k < 130 → zev r i_X5_commonDivisor 9 [some (.long u1), none, some (.long u2), none, some (.long (lN x)), none, some (.long (lN y)), none, some (.int (nI k)), none, none] [] h = zev r i_X5_commonDivisor 9 [some (.long u1), none, some (.long u2), none, some (.long (lN y)), none, some (.long (lN (x % y))), none, some (.int (nI (k + 1))), none, none] [] h := fun x y k hx hy h0 hk => by
    refine (E_X5_commonDivisor_9 ..).trans ?_
    have nz : ¬ lN y = 0 := fun q => h0 ((lN_z (by omega)).mp q)
    rw [if_pos (show nI k < 130 from nI_lt (b := 130) hk (by decide)), if_neg (fun q => nz (lg_0.mp q)), if_neg nz, pk_lRem (by omega) (by omega) (by omega), nI_1]
  intro b
  induction b with
  | zero =>
    intro x y k hx hy hb hk
    have : y = 0 := by simpa using hy
    subst this
    rw [Nat.gcd_zero_left]
    exact fin x k hx (by omega)
  | succ b ih =>
    intro x y k hx hy hb hk
    have hp : (2 : Nat) ^ (b + 1) ≤ 2 ^ 61 := Nat.pow_le_pow_right (by decide) (by omega)
    by_cases h0 : y = 0
    · subst h0
      rw [Nat.gcd_zero_left]
      exact fin x k hx (by omega)
    · rw [one x y k hx (by omega) h0 (by omega), Nat.gcd_rec y x]
      have r1 : x % y < y := Nat.mod_lt _ (by omega)
      by_cases h1 : x % y = 0
      · rw [h1, Nat.gcd_zero_left]
        exact fin y (k + 1) (by omega) (by omega)
      · rw [one y (x % y) (k + 1) (by omega) (by omega) h1 (by omega), Nat.gcd_rec (x % y) y]
        have r2 : y % (x % y) < x % y := Nat.mod_lt _ (by omega)
        have r3 : y % (x % y) + x % y ≤ y := by
          have := Nat.div_add_mod y (x % y)
          have d1 : 1 ≤ y / (x % y) := (Nat.le_div_iff_mul_le (by omega)).mpr (by omega)
          have : (x % y) * 1 ≤ (x % y) * (y / (x % y)) := Nat.mul_le_mul_left _ d1
          omega
        have hpw : (2 : Nat) ^ (b + 1) = 2 * 2 ^ b := by rw [Nat.pow_succ, Nat.mul_comm]
        exact ih (x % y) (y % (x % y)) (k + 1 + 1) (by omega) (by omega) (by omega) (by omega)
theorem m_gcd (s m : Int64) (w on : Int32) : ∀ (y x : Nat), x < 2 ^ 62 → y < 2 ^ 62 → 0 < Nat.gcd y x → zev r i_X6_mid 67 [some (.ref (r.1 + 49)), some (.int w), some (.long s), none, some (.long m), none, some (.int on), some (.long (lN x)), none, some (.long (lN y)), none, none, none] [] (zmk r c0 c1 c2 I J Q N A U V X S t) = some (some (.int 1), (zmk r c0 c1 c2 I J Q N A U (va_up (va_up V 0 (s / lN (Nat.gcd y x))) 1 (m / lN (Nat.gcd y x))) X S t)) := by
  intro y
  induction y using Nat.strongRecOn with
  | _ y ih =>
    intro x hx hy hg
    refine (E_X6_mid_67 ..).trans ?_
    by_cases h0 : y = 0
    · subst h0
      rw [Nat.gcd_zero_left] at hg ⊢
      have nz : ¬ lN x = 0 := fun q => by have := (lN_z (by omega)).mp q; omega
      rw [if_pos (lg_0.mpr (show lN 0 = 0 from rfl)), if_neg nz]
      simp only [mp_49_12, Option.bind_some, if_neg nz, mp_49_13]
    · have nz : ¬ lN y = 0 := fun q => h0 ((lN_z (by omega)).mp q)
      rw [if_neg (fun q => nz (lg_0.mp q)), if_neg nz, pk_lRem (by omega) (by omega) (by omega)]
      have r1 : x % y < y := Nat.mod_lt _ (by omega)
      rw [Nat.gcd_rec y x] at hg ⊢
      exact ih (x % y) r1 y hy (by omega) hg
def ySm (C : zCs) (L : zA) (w : Int32) (a : Int64) (p : List Nat) : Int64 := a + (sAll C (yPl p) L w).toInt64
theorem sum_lim (k : zCk C) {L : zA} (lk : zLk C L) (w : Int32) : ∀ (l : List (List Nat)) (a : Nat), (∀ p, p ∈ l → p ∈ yPs C) → ∃ s, s ≤ a + 1200 * l.length ∧ l.foldl (ySm C L w) (lN a) = lN s
  | [], a, _ => ⟨a, by omega, rfl⟩
  | p :: l, a, h => by
    obtain ⟨h1, h2⟩ := yPs_mem (h p List.mem_cons_self)
    obtain ⟨x, hx, ex⟩ := lim_sAll k lk (pl_vd (pl_hx h1) h2) w
    obtain ⟨s, hs, es⟩ := sum_lim k lk w l (a + x) fun q hq => h q (List.mem_cons_of_mem _ hq)
    refine ⟨s, by simp; omega, ?_⟩
    rw [List.foldl_cons, show ySm C L w (lN a) p = lN (a + x) by unfold ySm; rw [ex, nI_l (by omega), lN_add]]
    exact es
theorem lk_mid (E : zEk r) (w : Int32) {h : zH} (st : zSt r n h) : zBoth r n n (zev r i_X5_mid 0 [some (.ref (r.1 + 0)), some (.int w), none, none, none] []) (zev r i_X6_mid 0 [some (.ref (r.1 + 49)), some (.int w), none, none, none, none, none, none, none, none, none, none, none] []) h := by
  obtain ⟨C, c, c2, I, J, Q, N, A, U, V, X, S, t, rfl, iv, t1, t2⟩ := st
  obtain ⟨k, hC, mv, to, ro, te, no, lo, ke⟩ := id iv
  rcases zhk_cases 3 (by decide) w with g | ⟨g, w, hw, rfl⟩
  · refine both (v := (-1)) (h1 := (zmk r c c c2 I J Q N A U V X S t)) (h2 := (zmk r c c c2 I J Q N A U V X S t)) ?_ ?_ (st_mk iv t1 t2)
    · simp only [E_X5_mid_0, k_when, g, if_true, zcI_some]
    · simp only [E_X6_mid_0, m_when, g, if_true, zcI_some]
  by_cases m0 : nI C.2.1 = 0
  · refine both (v := (-4)) (h1 := (zmk r c c c2 I J Q N A U V X S t)) (h2 := (zmk r c c c2 I J Q N A U V X S t)) ?_ ?_ (st_mk iv t1 t2)
    · simp only [E_X5_mid_0, k_when, g, i01, if_false, zcI_some, mo_0, mg_0_0, mg_0_1, mg_0_2, mg_0_3, mg_0_4, mg_0_5, mg_0_6, mg_0_7, mg_0_8, mg_0_9, mg_0_10, mg_0_11, (hC ..).2.2.1, Option.bind_some, m0, if_true]
    · simp only [E_X6_mid_0, m_when, g, i01, if_false, zcI_some, mo_49, mg_49_0, mg_49_1, mg_49_2, mg_49_3, mg_49_4, mg_49_5, mg_49_6, mg_49_7, mg_49_8, mg_49_9, mg_49_10, mg_49_11, mg_49_12, mg_49_13, mg_49_14, mg_49_15, mg_49_16, mg_49_17, mg_49_18, mg_49_19, mg_49_20, mg_49_21, mg_49_22, mg_49_23, mg_49_24, mg_49_25, Option.bind_some, mv.2.1, m0, if_true]
  have k3 := k.2.2.1
  have hN : 0 < C.1 := by
    refine Nat.lt_of_lt_of_le (Nat.pos_of_ne_zero fun q => m0 ?_) k3
    rw [q]; rfl
  have lp := (yPs_len k).2
  obtain ⟨l0, el⟩ := yPs_head k
  have lpos : 0 < (yPs C).length := by rw [el]; simp
  obtain ⟨s, hs, es⟩ := sum_lim k no.2.1 (nI w) (yPs C) 0 fun _ h => h
  have gpos : 0 < Nat.gcd (yPs C).length s := Nat.gcd_pos_of_pos_left _ lpos
  have gle : Nat.gcd (yPs C).length s ≤ 117649 := Nat.le_trans (Nat.gcd_le_left _ lpos) lp
  -- the class
  obtain ⟨A0, e0, ao⟩ := a_begin (c2 := c2) (I := I) (J := J) (Q := Q) (A := A) (U := U) (V := V) (S := S) k hC no
  obtain ⟨A1, e1, -⟩ := c_all k N.2.2.1 (fun n (a : Int64) A => zev r i_X5_mid 37 [some (.ref (r.1 + 0)), some (.int (nI w)), some (.long a), none, some (.int (nI n))] [] (zmk r c c (c) I J Q N A U V X S t)) (ySm C N.2.2.1 (nI w)) (fun _ => True) (fun n a A p _ hn hp ao => by
    have ax := aBx (r := r) (c0 := c) (c1 := c) (I := I) (J := J) (Q := Q) (N := N) (U := U) (V := V) (X := X) (S := S) hC
    have ea := b_all ax k E (B := A) (lk_c ao.2.2.1 no.2.1) ao.1 (nI w)
    rw [sAll_c (hx_pl ao.2.1) ao.2.2.1] at ea
    obtain ⟨A', en, h1, h2, h3⟩ := a_next (c0 := c) (c1 := c) (I := I) (J := J) (Q := Q) (N := N) (A := A) (U := U) (V := V) (X := X) (S := S) k hC ao
    refine ⟨trivial, A', ?_, h1, h2, h3⟩
    refine (E_X5_mid_37 ..).trans ?_
    simp only [if_pos (show (0 : Int32) < nI (n + 1) from nI_lt (a := 0) (by omega) (by omega)), mo_0, mg_0_0, mg_0_1, mg_0_2, mg_0_3, mg_0_4, mg_0_5, mg_0_6, mg_0_7, mg_0_8, mg_0_9, mg_0_10, mg_0_11, mo_14, Option.bind_some, if_true, ea, zcI_some, en, zcV_some, pk_m1]
    rfl) 0 A0 trivial ao
  rw [show (0 : Int64) = lN 0 from rfl, es] at e1
  have fin : zev r i_X5_mid 37 [some (.ref (r.1 + 0)), some (.int (nI w)), some (.long (lN s)), none, some (.int (nI 0))] [] (zmk r c c (c) I J Q N (A1) U V X S t) = some (some (.int 1), (zmk r c c (c) I (va_up (va_up J 0 (lN s / lN (Nat.gcd (yPs C).length s))) 1 (lN (yPs C).length / lN (Nat.gcd (yPs C).length s))) Q N (A1) U V X S t)) := by
    refine (E_X5_mid_37 ..).trans ?_
    have eg := k_gcd r (zmk r c c (c) I J Q N (A1) U V X S t) (lN s) (lN (yPs C).length) 17 s (yPs C).length 0 (by omega) (by omega) (by decide) (by decide)
    have nz : ¬ lN (Nat.gcd (yPs C).length s) = 0 := fun q => by have := (lN_z (by omega)).mp q; omega
    have n1 : ¬ lN (Nat.gcd (yPs C).length s) < 1 := fun q => by have := (pk_lLT (b := 1) (by omega) (by decide)).mp q; omega
    simp only [if_neg (show ¬ (0 : Int32) < nI 0 by decide), mo_0, mg_0_0, mg_0_1, mg_0_2, mg_0_3, mg_0_4, mg_0_5, mg_0_6, mg_0_7, mg_0_8, mg_0_9, mg_0_10, mg_0_11, (hC ..).1, Option.bind_some, if_true, cr_plans (hC ..) k, sPlans_eq k, zcI_some, nI_l (show (yPs C).length < 2 ^ 31 by omega), E_X5_tellMean_0, E_X5_commonDivisor_0]
    rw [show (0 : Int32) = nI 0 from rfl, eg]
    simp only [zcL_some, n1, if_false, nz, mp_0_8, mp_0_9, Option.bind_some, zcV_some]
  have ec : zev r i_X5_mid 0 [some (.ref (r.1 + 0)), some (.int (nI w)), none, none, none] [] (zmk r c c c2 I J Q N A U V X S t) = some (some (.int 1), (zmk r c c (c) I (va_up (va_up J 0 (lN s / lN (Nat.gcd (yPs C).length s))) 1 (lN (yPs C).length / lN (Nat.gcd (yPs C).length s))) Q N (A1) U V X S t)) := by
    simp only [E_X5_mid_0, k_when, g, i01, if_false, zcI_some, mo_0, mg_0_0, mg_0_1, mg_0_2, mg_0_3, mg_0_4, mg_0_5, mg_0_6, mg_0_7, mg_0_8, mg_0_9, mg_0_10, mg_0_11, (hC ..).1, (hC ..).2.2.1, Option.bind_some, m0, if_true, e0, zcV_some, cr_plans (hC ..) k, sPlans_eq k]
    rw [show (0 : Int64) = lN 0 from rfl]
    exact e1.trans fin
  -- the reference
  obtain ⟨H0, f0, h0⟩ := m_first (r := r) (S := S) mv k no
  have em : ∃ S', zev r i_X6_mid 0 [some (.ref (r.1 + 49)), some (.int (nI w)), none, none, none, none, none, none, none, none, none, none, none] [] (zmk r c c (c) I (va_up (va_up J 0 (lN s / lN (Nat.gcd (yPs C).length s))) 1 (lN (yPs C).length / lN (Nat.gcd (yPs C).length s))) Q N (A1) U V X S t) = some (some (.int 1), (zmk r c c (c) I (va_up (va_up J 0 (lN s / lN (Nat.gcd (yPs C).length s))) 1 (lN (yPs C).length / lN (Nat.gcd (yPs C).length s))) Q N (A1) U (va_up (va_up V 0 (lN s / lN (Nat.gcd (yPs C).length s))) 1 (lN (yPs C).length / lN (Nat.gcd (yPs C).length s))) X (S') t)) := by
    generalize va_up (va_up J 0 (lN s / lN (Nat.gcd (yPs C).length s))) 1 (lN (yPs C).length / lN (Nat.gcd (yPs C).length s)) = J'
    obtain ⟨H1, e2, -⟩ := m_all' k hN (fun (a : Int64 × Int64) H => zev r i_X6_mid 31 [some (.ref (r.1 + 49)), some (.int (nI w)), some (.long a.1), none, some (.long a.2), none, some (.int 1), none, none, none, none, none, none] [] (zmk r c c (c) I (J') Q N (A1) U V X ((H, (zNw X S).2)) t)) (fun (a : Int64 × Int64) H => zev r i_X6_mid 31 [some (.ref (r.1 + 49)), some (.int (nI w)), some (.long a.1), none, some (.long a.2), none, some (.int 0), none, none, none, none, none, none] [] (zmk r c c (c) I (J') Q N (A1) U V X ((H, (zNw X S).2)) t)) (fun (a : Int64 × Int64) p => (ySm C N.2.2.1 (nI w) a.1 p, a.2 + 1)) (fun _ => True) (fun a H p l _ hp hb hn hr hbl => by
      have ea := m_all (r := r) (c0 := c) (c1 := c) (c2 := c) (I := I) (J := J') (Q := Q) (N := N) (A := A1) (V := V) (S := (H, (zNw X S).2)) (t := t) mv k (pl_vd hp hb) (nI w)
      dsimp only at ea
      rw [sAll_c (hx_pl hp) (now_l k no)] at ea
      obtain ⟨H', en, hn'⟩ := m_go (r := r) (c0 := c) (c1 := c) (c2 := c) (I := I) (J := J') (Q := Q) (N := N) (A := A1) (V := V) (S := zNw X S) (t := t) mv k hp hr hbl
      refine ⟨trivial, H', ?_⟩
      have st : zev r i_X6_mid 31 [some (.ref (r.1 + 49)), some (.int (nI w)), some (.long a.1), none, some (.long a.2), none, some (.int 1), none, none, none, none, none, none] [] (zmk r c c (c) I (J') Q N (A1) U V X ((H, (zNw X S).2)) t) = zev r i_X6_mid 31 [some (.ref (r.1 + 49)), some (.int (nI w)), some (.long (ySm C N.2.2.1 (nI w) a.1 p)), none, some (.long (a.2 + 1)), none, some (.int (match l.find? (fun q => decide q.Nodup) with | some _ => 1 | none => 0)), none, none, none, none, none, none] [] (zmk r c c (c) I (J') Q N (A1) U V X ((H', (zNw X S).2)) t) := by
        refine (E_X6_mid_31 ..).trans ?_
        simp only [i01, if_false, mo_49, mg_49_0, mg_49_1, mg_49_2, mg_49_3, mg_49_4, mg_49_5, mg_49_6, mg_49_7, mg_49_8, mg_49_9, mg_49_10, mg_49_11, mg_49_12, mg_49_13, mg_49_14, mg_49_15, mg_49_16, mg_49_17, mg_49_18, mg_49_19, mg_49_20, mg_49_21, mg_49_22, mg_49_23, mg_49_24, mg_49_25, if_true, ea, zcI_some, en]
        rfl
      refine ⟨fun z hz => ?_, fun hz => ?_⟩
      · rw [hz] at st
        exact ⟨st, hn' z hz⟩
      · rw [hz] at st
        exact st) (lN 0, lN 0) H0 trivial h0
    have ef : ∀ (l : List (List Nat)) (a : Int64) (b : Nat), l.foldl (fun (a : Int64 × Int64) p => (ySm C N.2.2.1 (nI w) a.1 p, a.2 + 1)) (a, lN b) = (l.foldl (ySm C N.2.2.1 (nI w)) a, lN (b + l.length)) := by
      intro l
      induction l with
      | nil => intro a b; rfl
      | cons p l ih =>
        intro a b
        rw [List.foldl_cons, List.foldl_cons, lN_1, ih, List.length_cons]
        congr 2
        omega
    rw [ef, es, Nat.zero_add] at e2
    refine ⟨(H1, (zNw X S).2), ?_⟩
    have f1 := f0 c c c I J' Q N A1 V t
    simp only [E_X6_mid_0, m_when, g, i01, if_false, zcI_some, mo_49, mg_49_0, mg_49_1, mg_49_2, mg_49_3, mg_49_4, mg_49_5, mg_49_6, mg_49_7, mg_49_8, mg_49_9, mg_49_10, mg_49_11, mg_49_12, mg_49_13, mg_49_14, mg_49_15, mg_49_16, mg_49_17, mg_49_18, mg_49_19, mg_49_20, mg_49_21, mg_49_22, mg_49_23, mg_49_24, mg_49_25, Option.bind_some, mv.2.1, m0, if_true, f1, zcV_some]
    refine e2.trans ?_
    refine (E_X6_mid_31 ..).trans ?_
    rw [if_pos rfl]
    exact m_gcd (lN s) (lN (yPs C).length) (nI w) 0 (yPs C).length s (by omega) (by omega) gpos
  obtain ⟨S', em⟩ := em
  refine both ec em (st_mk ⟨k, hC, mv, ?_, ro, te, no, lo, ke⟩ t1 t2)
  obtain ⟨b1, b2, b3, b4, b5⟩ := to
  exact ⟨b1, b2, by rw [va_ne (show (0 : Nat) ≠ 1 by decide), va_ne (show (0 : Nat) ≠ 1 by decide), va_same, va_same], by rw [va_same, va_same], b5⟩
end MID
