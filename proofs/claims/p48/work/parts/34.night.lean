/-! BOUNDS, SUMS; NIGHTS, LOTS; UNDO, KEEP, ON -/
section BOUNDS
variable {C : zCs} {H L : zA}
theorem lim_wk : ∀ a, a < 10 → ∀ b, b < 10 → ∃ x, x ≤ 9 ∧ (if nI a < nI b then nI b - nI a else nI a - nI b) = nI x := fun a ha b hb => by
  by_cases c : a < b
  · rw [if_pos (nI_lt c (by omega)), pk_sub (by omega)]; exact ⟨b - a, by omega, rfl⟩
  · rw [if_neg (nI_nlt (by omega) (by omega)), pk_sub (by omega)]; exact ⟨a - b, by omega, rfl⟩
theorem lim_ht (k : Int32) : ∃ x, x ≤ 2 ∧ sHt k = nI x := by
  unfold sHt
  split
  · exact ⟨2, by decide, rfl⟩
  · split
    · exact ⟨1, by decide, rfl⟩
    · exact ⟨0, by decide, rfl⟩
theorem lim_sWk (l : zLk C L) {k m : Nat} (hk : k < C.2.1) (hm : m < C.2.1) : ∃ x, x ≤ 15 ∧ sWk C L k m = nI x := by
  obtain ⟨a, ha, ea⟩ := l m hm
  obtain ⟨b, hb, eb⟩ := l k hk
  obtain ⟨x1, h1, e1⟩ := lim_wk a ha b hb
  obtain ⟨x2, h2, e2⟩ := lim_ht (C.2.2.2.1 k)
  obtain ⟨x3, h3, e3⟩ := lim_ht (C.2.2.2.1 m)
  have : ∃ x, x ≤ 2 ∧ (if C.2.2.2.1 k = 2 then if C.2.2.2.1 m = 3 then (0 : Int32) else 2 else 0) = nI x := by
    split
    · split
      · exact ⟨0, by decide, rfl⟩
      · exact ⟨2, by decide, rfl⟩
    · exact ⟨0, by decide, rfl⟩
  obtain ⟨x4, h4, e4⟩ := this
  unfold sWk
  rw [ea, eb, e1, e2, e3, e4, nI_add, nI_add, nI_add]
  exact ⟨_, by omega, rfl⟩
theorem lim_sSu (k : zCk C) (l : zLk C L) {m : Nat} (hm : m < C.2.1) {j : Nat} (hj : j < C.1) (e : H m = nI j) (w b : Int32) : ∃ x, x ≤ 94 ∧ sSu C H L m w b = nI x + -1 := by
  have k1 := k.1
  have k2 := k.2.1
  have := zfd_inv (f := fun a q => a + (if nI q = b then 0 else if sBes C H q m w = 0 then 0 else sWk C L q m)) (fun i (a : Int32) => ∃ x, x ≤ 4 + 15 * i ∧ a = nI x + -1) (j := 0) (n := C.2.1) (s := sPw (C.2.2.1 (H m).toNatClampNeg)) (by
    rw [e, nI_clamp (by omega)]
    obtain ⟨p, hp, ep⟩ := k.2.2.2.1 j hj
    rw [ep]
    have : ∀ p, p < 5 → ∃ x, x < 5 ∧ sPw (nI p) = nI x + -1 := by decide +kernel
    obtain ⟨x, hx, ex⟩ := this p hp
    exact ⟨x, by omega, ex⟩) (fun a i _ hi ⟨x, hx, ex⟩ => by
    have : ∃ y, y ≤ 15 ∧ (if nI i = b then 0 else if sBes C H i m w = 0 then 0 else sWk C L i m) = nI y := by
      split
      · exact ⟨0, by decide, rfl⟩
      · split
        · exact ⟨0, by decide, rfl⟩
        · exact lim_sWk l (by omega) hm
    obtain ⟨y, hy, ey⟩ := this
    refine ⟨x + y, by omega, ?_⟩
    rw [ey, ex, Int32.add_assoc, Int32.add_comm (-1), ← Int32.add_assoc, nI_add])
  obtain ⟨x, hx, ex⟩ := this
  exact ⟨x, by omega, ex⟩
theorem lim_sWo (k : zCk C) (l : zLk C L) (v : zVd C H) {m : Nat} (hm : m < C.2.1) (w b : Int32) : ∃ x, x ≤ 190 ∧ sWo C H L m w b = nI x := by
  unfold sWo
  by_cases e : sIn C H m w = 0
  · rw [if_pos e]; exact ⟨0, by decide, rfl⟩
  · rw [if_neg e]
    have e2 : ¬ H m = -9 := fun q => e (by unfold sIn; rw [if_pos q])
    obtain ⟨j, hj, ej⟩ := (v m hm).resolve_left e2
    obtain ⟨x, hx, ex⟩ := lim_sSu k l hm hj ej w b
    have : ∃ y, y ≤ 94 ∧ (if sSu C H L m w b < 0 then 0 else sSu C H L m w b) = nI y := by
      rw [ex]
      cases x with
      | zero => exact ⟨0, by decide, by decide⟩
      | succ x => rw [pk_m1, if_neg (nI_pos (by omega))]; exact ⟨x, by omega, rfl⟩
    obtain ⟨y, hy, ey⟩ := this
    rw [ey, show (2 : Int32) = nI 2 from rfl, pk_mul]
    split
    · exact ⟨2 * y, by omega, rfl⟩
    · exact ⟨y, by omega, rfl⟩
theorem lim_sAll (k : zCk C) (l : zLk C L) (v : zVd C H) (w : Int32) : ∃ x, x ≤ 1200 ∧ sAll C H L w = nI x := by
  have k2 := k.2.1
  have := zfd_inv (f := fun a m => a + sWo C H L m w (-9)) (fun i (a : Int32) => ∃ x, x ≤ 200 * i ∧ a = nI x) (j := 0) (n := C.2.1) (s := 0) ⟨0, by decide, rfl⟩ (fun a i _ hi ⟨x, hx, ex⟩ => by
    obtain ⟨y, hy, ey⟩ := lim_sWo k l v (show i < C.2.1 by omega) w (-9)
    exact ⟨x + y, by omega, by rw [ey, ex, nI_add]⟩)
  obtain ⟨x, hx, ex⟩ := this
  exact ⟨x, by omega, ex⟩
theorem lim_sMost (k : zCk C) (l : zLk C L) (v : zVd C H) (w : Int32) : ∃ x, x ≤ 200 ∧ sMost C H L w = nI x := by
  have k2 := k.2.1
  have := zfd_inv (f := fun a m => if a < sWo C H L m w (-9) then sWo C H L m w (-9) else a) (fun i (a : Int32) => ∃ x, x ≤ 200 ∧ a = nI x) (j := 0) (n := C.2.1) (s := 0) ⟨0, by decide, rfl⟩ (fun a i _ hi ⟨x, hx, ex⟩ => by
    obtain ⟨y, hy, ey⟩ := lim_sWo k l v (show i < C.2.1 by omega) w (-9)
    split
    · exact ⟨y, by omega, ey⟩
    · exact ⟨x, hx, ex⟩)
  exact this
end BOUNDS
def ySu (f : Nat → Int32) (n : Nat) : Int32 := zfd (fun a i => a + f i) 0 n 0
theorem su_acc (f : Nat → Int32) (n : Nat) (a : Int32) : zfd (fun a i => a + f i) 0 n a = a + ySu f n := zfd_acc (op := fun a b => a + b) Int32.add_assoc (fun a => by simp) Int32.add_comm
theorem su_succ (f : Nat → Int32) (n : Nat) : ySu f (n + 1) = ySu f n + f n := by
  unfold ySu
  rw [zfd_succ, Nat.zero_add]
theorem su_c {f g : Nat → Int32} {n : Nat} (h : ∀ i, i < n → f i = g i) : ySu f n = ySu g n := zfd_congr fun s i _ hi => by rw [h i (by omega)]
theorem su_zero {f : Nat → Int32} {n : Nat} (h : ∀ i, i < n → f i = 0) : ySu f n = 0 := zfd_zero (op := fun a b => a + b) (fun a => by simp) fun i _ hi => h i (by omega)
theorem su_add (f g : Nat → Int32) : ∀ n : Nat, ySu (fun i => f i + g i) n = ySu f n + ySu g n
  | 0 => rfl
  | n + 1 => by
    rw [su_succ, su_succ, su_succ, su_add f g n]
    generalize ySu f n = a
    generalize ySu g n = b
    rw [Int32.add_assoc, Int32.add_assoc, ← Int32.add_assoc b, Int32.add_comm b (f n), Int32.add_assoc (f n)]
theorem su_swap (f : Nat → Nat → Int32) (m : Nat) : ∀ n : Nat, ySu (fun i => ySu (fun j => f i j) m) n = ySu (fun j => ySu (fun i => f i j) n) m
  | 0 => (su_zero fun _ _ => rfl).symm
  | n + 1 => by
    rw [su_succ, su_swap f m n, ← su_add]
    exact su_c fun j _ => (su_succ _ _).symm
theorem su_one {f : Nat → Int32} {n i : Nat} (hi : i < n) (h : ∀ k, k < n → k ≠ i → f k = 0) : ySu f n = f i := zfd_one (op := fun a b => a + b) (fun a => by simp) Int32.add_comm (Nat.zero_le _) (by omega) fun k _ hk hn => h k (by omega) hn
theorem su_tri (a : Nat → Nat → Int32) (h0 : ∀ m, a m m = 0) : ∀ n : Nat, ySu (fun m => ySu (fun q => a m q + a q m) m) n = ySu (fun m => ySu (fun q => a m q) n) n
  | 0 => rfl
  | n + 1 => by
    rw [su_succ, su_tri a h0 n, su_succ, su_add]
    rw [su_c (f := fun m => ySu (fun q => a m q) (n + 1)) (g := fun m => ySu (fun q => a m q) n + a m n) fun m _ => su_succ _ _, su_add, su_succ, h0]
    generalize ySu (fun m => ySu (fun q => a m q) n) n = s
    rw [Int32.add_zero, Int32.add_assoc, Int32.add_comm (ySu (fun q => a n q) n)]
section NIGHT
variable {r : zE} {c0 c1 c2 : Nat} {I : Nat → Int32} {J : Nat → Int64} {Q : Nat → Nat → Int32} {N A : zBr} {Ga Va : Nat → Int32} {t : zH} {C : zCs} {c n d : Nat}
def sNt (C : zCs) (H L : zA) (w : Int32) (s : Int32 × zA) (m : Nat) : Int32 × zA := (s.1 + ((if s.2 m + sWo C H L m w (-9) < 99 then s.2 m + sWo C H L m w (-9) else 99) - s.2 m), upd s.2 m (if s.2 m + sWo C H L m w (-9) < 99 then s.2 m + sWo C H L m w (-9) else 99))
theorem b_tire {x : Nat} {F : zBr → zH} {B : zBr} (b : zBx r x c C F) (k : zCk C) (E : zEk r) (l : zLk C B.2.2.1) (g : zCG C B.1 B.2.1) (w : Int32) : zev r i_X0_tire 0 [some (.ref x), some (.int w), none, none, none] [] (F B) = some (some (.int (zfd (sNt C B.1 B.2.2.1 w) 0 C.2.1 (0, B.2.2.2)).1), F (B.1, B.2.1, B.2.2.1, (zfd (sNt C B.1 B.2.2.1 w) 0 C.2.1 (0, B.2.2.2)).2)) := by
  have k2 := k.2.1
  rw [E_X0_tire_0]
  refine zloop (fun j (s : Int32 × zA) => zev r i_X0_tire 4 [some (.ref x), some (.int w), some (.int s.1), some (.int (nI j)), none] [] (F (B.1, B.2.1, B.2.2.1, s.2))) (fun s => some (some (.int s.1), F (B.1, B.2.1, B.2.2.1, s.2))) _ C.2.1 (fun j s hj => ?_) (fun s => ?_) (0, B.2.2.2)
  · refine (E_X0_tire_4 ..).trans ?_
    obtain ⟨v, o, g0, g1, g2, g3, g4, r1, r2, r3, r4, w1, w2, w3, w4, -⟩ := b (B.1, B.2.1, B.2.2.1, s.2)
    have e := b_wak b k E (B := (B.1, B.2.1, B.2.2.1, s.2)) l g hj w
    have v2 := fun f => b (B.1, B.2.1, B.2.2.1, f)
    simp only [g0, v.2.2.1, Option.bind_some, if_pos (nI_lt6 k hj), g4, r4 j (show j < 6 by omega), o, if_true, e, zcI_some, w4 j _ (show j < 6 by omega), (v2 _).2.2.2.2.2.2.1, (v2 _).2.2.2.2.2.2.2.2.2.2.1 j (show j < 6 by omega), upd_s, nI_1]
    rfl
  · refine (E_X0_tire_4 ..).trans ?_
    obtain ⟨v, o, g0, -⟩ := b (B.1, B.2.1, B.2.2.1, s.2)
    simp only [g0, v.2.2.1, Option.bind_some, if_neg (nI_nlt6 k)]
/-- how tired one is behind a night -/
def yNa (C : zCs) (H L T : zA) (w : Int32) (m : Nat) : Int32 := if T m + sWo C H L m w (-9) < 99 then T m + sWo C H L m w (-9) else 99
def yNd (C : zCs) (D : zDk) (w : Int32) : zDk := (D.1, D.2.1, fun m => yNa C D.1 D.2.1 D.2.2 w m)
def yNv (C : zCs) (D : zDk) (w : Int32) : Int32 := ySu (fun m => yNa C D.1 D.2.1 D.2.2 w m - D.2.2 m) C.2.1
theorem nt_eq (C : zCs) (H L T : zA) (w : Int32) : ∀ n : Nat, zfd (sNt C H L w) 0 n (0, T) = (ySu (fun m => yNa C H L T w m - T m) n, fun m => if m < n then yNa C H L T w m else T m)
  | 0 => rfl
  | n + 1 => by
    rw [zfd_succ, nt_eq C H L T w n, su_succ, Nat.zero_add]
    unfold sNt
    dsimp only
    simp only [Nat.lt_irrefl, if_false]
    refine Prod.ext rfl (funext fun m => ?_)
    dsimp only
    by_cases e : m = n
    · subst e
      rw [pk_us, if_pos (Nat.lt_succ_self m)]
      rfl
    · rw [pk_un e]
      by_cases e2 : m < n
      · rw [if_pos e2, if_pos (by omega)]
      · rw [if_neg e2, if_neg (by omega)]
theorem na_c {H H' L L' T T' : zA} (e : ∀ k, k < C.2.1 → H' k = H k) (el : ∀ k, k < C.2.1 → L' k = L k) (et : ∀ k, k < C.2.1 → T' k = T k) {m : Nat} (hm : m < C.2.1) (w : Int32) : yNa C H' L' T' w m = yNa C H L T w m := by
  unfold yNa
  rw [sWo_c hm e el, et m hm]
theorem na_t9 (k : zCk C) {D : zDk} (ok : zOk C D) (w : Int32) {m : Nat} (hm : m < C.2.1) : ∃ a b x, a < 100 ∧ x ≤ 190 ∧ D.2.2 m = nI a ∧ sWo C D.1 D.2.1 m w (-9) = nI x ∧ yNa C D.1 D.2.1 D.2.2 w m = nI b ∧ b < 100 ∧ a ≤ b ∧ b ≤ a + x := by
  obtain ⟨a, ha, ea⟩ := ok.2.2 m hm
  obtain ⟨x, hx, ex⟩ := lim_sWo k (l1_lk ok.2.1) ok.1.1 hm w (-9)
  unfold yNa
  rw [ea, ex, nI_add]
  by_cases q : a + x < 99
  · rw [if_pos (show nI (a + x) < 99 from nI_lt (b := 99) q (by decide))]
    exact ⟨a, a + x, x, ha, hx, rfl, rfl, rfl, by omega, by omega, by omega⟩
  · rw [if_neg (show ¬ nI (a + x) < 99 from nI_nlt (b := 99) (by omega) (by omega))]
    exact ⟨a, 99, x, ha, hx, rfl, rfl, rfl, by decide, by omega, by omega⟩
end NIGHT
section CALLS4
variable {r : zE} {C : zCs} {d : Nat} {M : Nat → zDk} {K : Nat → Option (Nat × (Nat → zDk))} {W Tx : Nat → Option (List Int32)} {ta : Int32} {tu tl : Int64} {Ga Va : zA} {n : Nat} {h : zH}
theorem ck_slept (E : zEk r) (w : Int32) (h6 : d < 60) (st : zSt r C d M K W Tx ta tu tl Ga Va n h) : ∃ h', zev r i_X5_sleptThrough 0 [some (.ref (r.1 + 0)), some (.int w), none] [] h = some (some (.int (yNv C (M d) w)), h') ∧ zSt r C (d + 1) (va_up M (d + 1) (yNd C (M d) w)) K W Tx ta tu tl Ga Va n h' := by
  have ok := st_ok st
  have k0 := st_k st
  obtain ⟨c, c2, I, J, Q, N, A, t, rfl, iv, t1, t2⟩ := st
  obtain ⟨k, hC, no, de, hd, -⟩ := id iv
  have b := b_tire (nBx (c0 := c) (c2 := c2) (I := I) (J := J) (Q := Q) (A := A) (Ga := Ga) (Va := Va) hC) k E (B := N) no.2.1 no.1 w
  have e1 : ySu (fun m => yNa C N.1 N.2.2.1 N.2.2.2 w m - N.2.2.2 m) C.2.1 = yNv C (M d) w := su_c fun i hi => by rw [na_c (de_h de) (de_l de) (de_t de) hi, de_t de i hi]
  rw [nt_eq, e1] at b
  have iv2 := iv_deed iv h6 (N.1, N.2.1, N.2.2.1, fun m => if m < C.2.1 then yNa C N.1 N.2.2.1 N.2.2.2 w m else N.2.2.2 m) (yNd C (M d) w) no.1 (fun m hm => ⟨de_h de m hm, de_l de m hm, ?_⟩) ok.2.1 (fun m hm => ?_)
  · refine ⟨_, ?_, st_mk (c2 := c2) (A := A) iv2 t1 t2⟩
    simp only [E_X5_sleptThrough_0, mo_0, mg_0_0, mg_0_1, mg_0_2, mg_0_3, mg_0_4, mg_0_5, mg_0_6, mg_0_7, mg_0_8, mg_0_9, mg_0_10, mg_0_11, mo_9, mo_19, Option.bind_some, if_true, b, zcI_some, g_add hd h6, zcV_some]
  · show (if m < C.2.1 then yNa C N.1 N.2.2.1 N.2.2.2 w m else N.2.2.2 m) = yNa C (M d).1 (M d).2.1 (M d).2.2 w m
    rw [if_pos hm, na_c (de_h de) (de_l de) (de_t de) hm]
  · obtain ⟨a, b, x, _, _, _, _, e, hb, _⟩ := na_t9 k ok w hm
    exact ⟨b, hb, e⟩
theorem ck_night (E : zEk r) {w : Nat} (hw : w < 3) (m0 : 0 < C.2.1) (h6 : d < 60) (st : zSt r C d M K W Tx ta tu tl Ga Va n h) : ∃ h', zev r i_X5_night 0 [some (.ref (r.1 + 0)), some (.int (nI w))] [] h = some (some (.int (yNv C (M d) (nI w))), h') ∧ zSt r C (d + 1) (va_up M (d + 1) (yNd C (M d) (nI w))) K W Tx ta tu tl Ga Va n h' := by
  obtain ⟨h', e, st'⟩ := ck_slept E (nI w) h6 st
  refine ⟨h', ?_, st'⟩
  obtain ⟨c, c2, I, J, Q, N, A, t, rfl, iv, t1, t2⟩ := st
  obtain ⟨k, hC, no, de, hd, -⟩ := id iv
  have k2 := k.2.1
  have g_room1 := @g_room1
  have f : zhk 3 (nI w) = 1 := zhk_in hw (by decide)
  have z : ¬ d = 60 := by omega
  have m1 : ¬ nI C.2.1 = 0 := nI_ne0 m0 (by omega)
  simp only [E_X5_night_0, k_when, f, i01, if_false, mo_0, mg_0_0, mg_0_1, mg_0_2, mg_0_3, mg_0_4, mg_0_5, mg_0_6, mg_0_7, mg_0_8, mg_0_9, mg_0_10, mg_0_11, mo_19, (hC ..).2.2.1, Option.bind_some, m1, if_true, g_room1 hd (show d ≤ 60 by omega), z, zcI_some, e]
theorem ck_lots (E : zEk r) {s : Nat} (s1 : 1 ≤ s) (s2 : s < 2147483647) (m0 : 0 < C.2.1) (h6 : d < 59) (st : zSt r C d M K W Tx ta tu tl Ga Va n h) : ∃ w1 w2 h', zev r i_X5_lots 0 [some (.ref (r.1 + 0)), some (.int 2), some (.int (nI s)), none, none, none, none] [] h = some (some (.int (0 + yNv C (M d) w1 + yNv C (yNd C (M d) w1) w2)), h') ∧ zSt r C (d + 2) (va_up (va_up M (d + 1) (yNd C (M d) w1)) (d + 2) (yNd C (yNd C (M d) w1) w2)) K W Tx ta tu tl Ga Va n h' := by
  have c0 := E_X5_lots_63 r h (r.1 + 0) 2 (nI s) (nI s).toInt64 0 0
  rw [if_pos (by decide), if_neg (by decide), if_neg (by decide), if_neg (by decide), if_pos (st_ob st)] at c0
  obtain ⟨h1, e1, st1⟩ := ck_slept E ((((nI s).toInt64 * (48271 : Int64)) - ((nI s).toInt64 * (48271 : Int64)) / (2147483647 : Int64) * (2147483647 : Int64)) / (16 : Int64) - (((nI s).toInt64 * (48271 : Int64)) - ((nI s).toInt64 * (48271 : Int64)) / (2147483647 : Int64) * (2147483647 : Int64)) / (16 : Int64) / (3 : Int64) * (3 : Int64)).toInt32 (by omega) st
  rw [e1, zcI_some] at c0
  generalize ((((nI s).toInt64 * (48271 : Int64)) - ((nI s).toInt64 * (48271 : Int64)) / (2147483647 : Int64) * (2147483647 : Int64)) / (16 : Int64) - (((nI s).toInt64 * (48271 : Int64)) - ((nI s).toInt64 * (48271 : Int64)) / (2147483647 : Int64) * (2147483647 : Int64)) / (16 : Int64) / (3 : Int64) * (3 : Int64)).toInt32 = w1 at c0 st1
  generalize ((nI s).toInt64 * (48271 : Int64)) - ((nI s).toInt64 * (48271 : Int64)) / (2147483647 : Int64) * (2147483647 : Int64) = x1 at c0
  rw [show (0 : Int32) + 1 = 1 by decide] at c0
  have c1 := E_X5_lots_63 r h1 (r.1 + 0) 2 (nI s) x1 (0 + yNv C (M d) w1) 1
  rw [if_pos (by decide), if_neg (by decide), if_neg (by decide), if_neg (by decide), if_pos (st_ob st1)] at c1
  obtain ⟨h2, e2, st2⟩ := ck_slept E ((x1 * (48271 : Int64) - x1 * (48271 : Int64) / (2147483647 : Int64) * (2147483647 : Int64)) / (16 : Int64) - (x1 * (48271 : Int64) - x1 * (48271 : Int64) / (2147483647 : Int64) * (2147483647 : Int64)) / (16 : Int64) / (3 : Int64) * (3 : Int64)).toInt32 (by omega) st1
  rw [e2, zcI_some] at c1
  generalize ((x1 * (48271 : Int64) - x1 * (48271 : Int64) / (2147483647 : Int64) * (2147483647 : Int64)) / (16 : Int64) - (x1 * (48271 : Int64) - x1 * (48271 : Int64) / (2147483647 : Int64) * (2147483647 : Int64)) / (16 : Int64) / (3 : Int64) * (3 : Int64)).toInt32 = w2 at c1 st2
  have q2 := E_X5_lots_63 r h2 (r.1 + 0) 2 (nI s)
  rw [show (1 : Int32) + 1 = 2 by decide, q2, if_neg (by decide)] at c1
  rw [va_same] at c1 st2
  refine ⟨w1, w2, h2, ?_, st2⟩
  rw [← c1, ← c0]
  obtain ⟨c, c2, I, J, Q, N, A, t, rfl, iv, t1, t2⟩ := st
  obtain ⟨k, hC, no, de, hd, hp, -⟩ := id iv
  have k2 := k.2.1
  have m1 : ¬ nI C.2.1 = 0 := nI_ne0 m0 (by omega)
  have gr := g_room (r := r) (c0 := c) (c1 := c) (c2 := c2) (J := J) (Q := Q) (N := N) (A := A) (Ga := Ga) (Va := Va) (t := t) hd hp.1 (k := 2) (by decide)
  rw [show nI 2 = (2 : Int32) from rfl, if_neg (show ¬ 60 < d + 2 by omega)] at gr
  have b1 : ¬ nI s < 1 := nI_nlt (b := 1) s1 (by omega)
  have b3 : lg_cmp (nI s).toInt64 2147483647 < 0 := by
    rw [nI_l (by omega), show (2147483647 : Int64) = lN 2147483647 from rfl]
    unfold lg_cmp
    have l1 : lN s < lN 2147483647 := (lN_lt (by omega) (by decide)).mpr s2
    rw [if_neg (Int64.lt_asymm l1), if_neg (fun q => Int64.lt_irrefl (q ▸ l1))]
    decide
  simp only [E_X5_lots_0, show ¬ (2 : Int32) < 1 by decide, show ¬ (20 : Int32) < 2 by decide, b1, b3, if_true, if_false, mo_0, mg_0_0, mg_0_1, mg_0_2, mg_0_3, mg_0_4, mg_0_5, mg_0_6, mg_0_7, mg_0_8, mg_0_9, mg_0_10, mg_0_11, mo_19, (hC ..).2.2.1, Option.bind_some, m1, gr, zcI_some, i01]
end CALLS4
section BACK
variable {r : zE} {c0 c1 c2 : Nat} {I : Nat → Int32} {J : Nat → Int64} {Q : Nat → Nat → Int32} {N A : zBr} {Ga Va : Nat → Int32} {t : zH} {C : zCs} {c n d : Nat}
theorem g_read (k : zCk C) (hC : zCt r t c C) {b : Nat} (hb : b + 18 ≤ 1098) (hv : zVI C (fun m => Q 9 (b + m))) : ∃ N' : zBr, zev r i_X0_readFrom 0 [some (.ref (r.1 + 9)), some (.ref (r.1 + 20)), some (.int (nI b)), none] [] (zmk r c0 (c) c2 I J Q N A Ga Va t) = some (none, (zmk r c0 (c) c2 I J Q (N') A Ga Va t)) ∧ zCG C N'.1 N'.2.1 ∧ ∀ m, m < C.2.1 → N'.1 m = Q 9 (b + m) ∧ N'.2.2.1 m = Q 9 (b + (6 + m)) ∧ N'.2.2.2 m = Q 9 (b + (12 + m)) := by
  have k1 := k.1
  have k2 := k.2.1
  have bx := nBx (r := r) (c0 := c0) (c2 := c2) (I := I) (J := J) (Q := Q) (A := A) (Ga := Ga) (Va := Va) hC
  obtain ⟨H0, G0, e0, d0, cg0⟩ := b_down bx k (B := N)
  have q2 : ¬ nI 1098 - 18 < nI b := by
    rw [show (18 : Int32) = nI 18 from rfl, pk_sub (by decide)]
    exact nI_nlt (by omega) (by decide)
  have e6 : (6 : Int32) = nI 6 := rfl
  have e1 : nI b + 6 = nI (b + 6) := nI_add b 6
  have e2 : nI b + 12 = nI (b + 12) := nI_add b 12
  simp only [E_X0_readFrom_0, if_neg (nI_pos (show b < 2 ^ 31 by omega)), mn_20, Option.bind_some, nI_of0, if_neg q2, mo_9, if_true, e0, zcV_some]
  refine zloopS (fun j (s : zA × zA) => (∀ m, m < j → s.1 m = Q 9 (b + m)) ∧ (∀ m, j ≤ m → m < C.2.1 → s.1 m = -9) ∧ zCG C s.1 s.2) (fun e => ∃ N' : zBr, e = some (none, (zmk r c0 (c) c2 I J Q (N') A Ga Va t)) ∧ zCG C N'.1 N'.2.1 ∧ ∀ m, m < C.2.1 → N'.1 m = Q 9 (b + m) ∧ N'.2.2.1 m = Q 9 (b + (6 + m)) ∧ N'.2.2.2 m = Q 9 (b + (12 + m))) (fun j (s : zA × zA) => zev r i_X0_readFrom 20 [some (.ref (r.1 + 9)), some (.ref (r.1 + 20)), some (.int (nI b)), some (.int (nI j))] [] (zmk r c0 (c) c2 I J Q ((s.1, s.2, N.2.2.1, N.2.2.2)) A Ga Va t)) C.2.1 (fun j s hj p => .inr ?_) (fun s p => ?_) (H0, G0) ⟨fun m hm => absurd hm (Nat.not_lt_zero m), fun m _ hm => d0 m hm, cg0⟩
  · have fr : zFree C s.2 (Q 9 (b + j)) := by
      rcases hv.1 j hj with z | ⟨i, hi, z⟩
      · exact .inl z
      · refine .inr ⟨i, hi, z, cg_free k p.2.2 hi fun m hm => ?_⟩
        by_cases w : m < j
        · rw [p.1 m w]
          exact fun y => absurd (hv.2 m j hm hj (y.trans z.symm) (by dsimp only; rw [y]; exact nI_n9 (by omega))) (by omega)
        · rw [p.2.1 m (by omega) hm]
          exact fun y => nI_n9 (by omega) y.symm
    obtain ⟨G', e3, c3⟩ := b_move bx k (B := (s.1, s.2, N.2.2.1, N.2.2.2)) p.2.2 hj (h := Q 9 (b + j)) (.inl fr)
    refine ⟨(upd s.1 j (Q 9 (b + j)), G'), ?_, fun m hm => ?_, fun m h1 h2 => ?_, c3⟩
    · refine (E_X0_readFrom_20 ..).trans ?_
      simp only [mg_9_0, (hC ..).2.2.1, Option.bind_some, if_pos (nI_lt6 k hj), nI_add, ma_20 (show b + j < 1098 by omega), mo_9, if_true, e3, zcV_some, nI_1]
    · by_cases w : m = j
      · subst w; exact upd_s
      · exact (upd_n w).trans (p.1 m (by omega))
    · exact (upd_n (by omega)).trans (p.2.1 m (by omega) h2)
  · refine ⟨(s.1, s.2, va_cpy (Q 9) N.2.2.1 (b + 6) 0 6, va_cpy (Q 9) N.2.2.2 (b + 12) 0 6), ?_, p.2.2, fun m hm => ⟨p.1 m hm, ?_, ?_⟩⟩
    · refine (E_X0_readFrom_20 ..).trans ?_
      have p1 : ∀ H G, zcp r (zmk r c0 (c) c2 I J Q ((H, G, N.2.2.1, N.2.2.2)) A Ga Va t) (r.1 + 20) (nI (b + 6)) (r.1 + 12) 0 6 = some (zmk r c0 (c) c2 I J Q ((H, G, va_cpy (Q 9) N.2.2.1 (b + 6) 0 6, N.2.2.2)) A Ga Va t) := fun H G => by
        rw [nI_0', e6, zcp_of mc_20 mc_12 (by omega) (by decide) (by decide) (by decide), ms_12]
      have p2 : ∀ H G L, zcp r (zmk r c0 (c) c2 I J Q ((H, G, L, N.2.2.2)) A Ga Va t) (r.1 + 20) (nI (b + 12)) (r.1 + 13) 0 6 = some (zmk r c0 (c) c2 I J Q ((H, G, L, va_cpy (Q 9) N.2.2.2 (b + 12) 0 6)) A Ga Va t) := fun H G L => by
        rw [nI_0', e6, zcp_of mc_20 mc_13 (by omega) (by decide) (by decide) (by decide), ms_13]
      simp only [mg_9_0, mg_9_3, mg_9_4, (hC ..).2.2.1, Option.bind_some, if_neg (nI_nlt6 k), e1, e2, p1, p2]
    · show va_cpy (Q 9) N.2.2.1 (b + 6) 0 6 m = _
      unfold va_cpy
      rw [if_pos (by omega), show b + 6 + (m - 0) = b + (6 + m) by omega]
    · show va_cpy (Q 9) N.2.2.2 (b + 12) 0 6 m = _
      unfold va_cpy
      rw [if_pos (by omega), show b + 12 + (m - 0) = b + (12 + m) by omega]
theorem g_back (k : zCk C) (hC : zCt r t c C) {e : Nat} (he : e ≤ d) (h6 : d ≤ 60) (hd : I 2 = nI d) (hv : zVI C (fun m => Q 9 (18 * e + m))) : ∃ N' : zBr, zev r i_X2_goBackTo 0 [some (.ref (r.1 + 19)), some (.int (nI e)), some (.ref (r.1 + 9))] [] (zmk r c0 (c) c2 I J Q N A Ga Va t) = some (none, (zmk r c0 (c) c2 (va_up I 2 (nI e)) J Q (N') A Ga Va t)) ∧ zCG C N'.1 N'.2.1 ∧ ∀ m, m < C.2.1 → N'.1 m = Q 9 (18 * e + m) ∧ N'.2.2.1 m = Q 9 (18 * e + (6 + m)) ∧ N'.2.2.2 m = Q 9 (18 * e + (12 + m)) := by
  obtain ⟨N', e1, e2⟩ := g_read (c0 := c0) (c2 := c2) (I := va_up I 2 (nI e)) (J := J) (N := N) (A := A) (Ga := Ga) (Va := Va) k hC (b := 18 * e) (by omega) hv
  refine ⟨N', ?_, e2⟩
  have e3 : nI e * 18 = nI (18 * e) := by rw [show (18 : Int32) = nI 18 from rfl, pk_mul, Nat.mul_comm]
  simp only [E_X2_goBackTo_0, if_neg (nI_pos (show e < 2 ^ 31 by omega)), mg_19_1, hd, Option.bind_some, if_neg (nI_nlt (b := e) (a := d) he (by omega)), mp_19_1, mg_19_0, mo_9, if_true, e3, e1, zcV_some]
theorem g_copy {k : Nat} (hk : k < 3) : zev r i_X2_copyFrom 0 [some (.ref (r.1 + 43 + 2 * k)), some (.ref (r.1 + 19))] [] (zmk r c0 c1 c2 I J Q N A Ga Va t) = some (none, (zmk r c0 c1 c2 (va_up I (3 + k) (I 2)) J (va_up Q (10 + k) (va_cpy (Q 9) (Q (10 + k)) 0 0 1098)) N A Ga Va t)) := by
  have p : ∀ I, zcp r (zmk r c0 c1 c2 I J Q N A Ga Va t) (r.1 + 20) 0 (r.1 + (44 + 2 * k)) 0 (nI 1098) = some (zmk r c0 c1 c2 I J (va_up Q (10 + k) (va_cpy (Q 9) (Q (10 + k)) 0 0 1098)) N A Ga Va t) := fun I => by
    rw [nI_0', zcp_of mc_20 (mcv_k hk) (by decide) (by decide) (by decide) (by decide), msv_k hk]
  simp only [E_X2_copyFrom_0, mg_19_1, mg_19_0, Option.bind_some, mps_k hk, mgv_k hk, mnv_k hk, nI_of0, p]
theorem g_copy2 {k : Nat} (hk : k < 3) : zev r i_X2_copyFrom 0 [some (.ref (r.1 + 19)), some (.ref (r.1 + 43 + 2 * k))] [] (zmk r c0 c1 c2 I J Q N A Ga Va t) = some (none, (zmk r c0 c1 c2 (va_up I 2 (I (3 + k))) J (va_up Q 9 (va_cpy (Q (10 + k)) (Q 9) 0 0 1098)) N A Ga Va t)) := by
  have p : ∀ I, zcp r (zmk r c0 c1 c2 I J Q N A Ga Va t) (r.1 + (44 + 2 * k)) 0 (r.1 + 20) 0 (nI 1098) = some (zmk r c0 c1 c2 I J (va_up Q 9 (va_cpy (Q (10 + k)) (Q 9) 0 0 1098)) N A Ga Va t) := fun I => by
    rw [nI_0', zcp_of (mcv_k hk) mc_20 (by decide) (by decide) (by decide) (by decide), ms_20]
  simp only [E_X2_copyFrom_0, mgs_k hk, mg_19_0, Option.bind_some, mp_19_1, mgv_k hk, mn_20, nI_of0, p]
end BACK
section CALLS5
variable {r : zE} {C : zCs} {d : Nat} {M : Nat → zDk} {K : Nat → Option (Nat × (Nat → zDk))} {W Tx : Nat → Option (List Int32)} {ta : Int32} {tu tl : Int64} {Ga Va : zA} {n : Nat} {h : zH}
theorem ck_undo {e : Nat} {M' : Nat → zDk} (he : e ≤ d) (hM : ∀ j, j ≤ e → M' j = M j) (st : zSt r C d M K W Tx ta tu tl Ga Va n h) : ∃ h', zev r i_X5_undo 0 [some (.ref (r.1 + 0)), some (.int (nI e)), none] [] h = some (some (.int (nI (d - e))), h') ∧ zSt r C (e) (M') K W Tx ta tu tl Ga Va n h' := by
  obtain ⟨c, c2, I, J, Q, N, A, t, rfl, iv, t1, t2⟩ := st
  obtain ⟨k, hC, no, de, hd, hp, -⟩ := id iv
  have k2 := k.2.1
  have d6 := hp.1
  have hp2 := pa_c hp he hM
  have pe := (hp2.2 e (Nat.le_refl e))
  obtain ⟨N', e1, e2, e3⟩ := g_back (c0 := c) (c2 := c2) (J := J) (N := N) (A := A) (Ga := Ga) (Va := Va) k hC (e := e) he d6 hd (vi_c (fun m hm => ((pe.2 m hm).1)) pe.1.1)
  have iv2 := iv_log iv e M' (Q 9) N' hp2 e2 (fun m hm => by
    obtain ⟨a1, a2, a3⟩ := e3 m hm
    obtain ⟨b1, b2, b3⟩ := pe.2 m hm
    exact ⟨a1.trans b1, a2.trans b2, a3.trans b3⟩)
  rw [va_self] at iv2
  refine ⟨(zmk r c c c2 (va_up I 2 (nI e)) J Q (N') A Ga Va t), ?_, st_mk iv2 t1 t2⟩
  simp only [E_X5_undo_0, nI_pos (show e < 2 ^ 31 by omega), if_false, mo_0, mg_0_0, mg_0_1, mg_0_2, mg_0_3, mg_0_4, mg_0_5, mg_0_6, mg_0_7, mg_0_8, mg_0_9, mg_0_10, mg_0_11, mo_19, mg_19_1, hd, Option.bind_some, nI_nlt (b := e) (a := d) he (by omega), if_true, e1, zcV_some, pk_sub he]
theorem ck_keep {i : Nat} (hi : i < 3) (m0 : 0 < C.2.1) (st : zSt r C d M K W Tx ta tu tl Ga Va n h) : ∃ h', zev r i_X5_keep 0 [some (.ref (r.1 + 0)), some (.int (nI i))] [] h = some (some (.int (nI d)), h') ∧ zSt r C d M (va_up K i (some (d, M))) W Tx ta tu tl Ga Va n h' := by
  obtain ⟨c, c2, I, J, Q, N, A, t, rfl, iv, t1, t2⟩ := st
  obtain ⟨k, hC, no, de, hd, hp, -⟩ := id iv
  have k2 := k.2.1
  have f : zhk 3 (nI i) = 1 := zhk_in hi (by decide)
  have m1 : ¬ nI C.2.1 = 0 := nI_ne0 m0 (by omega)
  refine ⟨(zmk r c c c2 (va_up I (3 + i) (I 2)) J (va_up Q (10 + i) (va_cpy (Q 9) (Q (10 + i)) 0 0 1098)) N A Ga Va t), ?_, st_mk (iv_kept iv hi (s := I 2) (f := va_cpy (Q 9) (Q (10 + i)) 0 0 1098) (o := some (d, M)) ⟨hd, hp.1, fun j hj => ⟨(hp.2 j hj).1, fun m hm => ?_⟩⟩) t1 t2⟩
  · simp only [E_X5_keep_0, mo_0, mg_0_0, mg_0_1, mg_0_2, mg_0_3, mg_0_4, mg_0_5, mg_0_6, mg_0_7, mg_0_8, mg_0_9, mg_0_10, mg_0_11, k_kept, f, i01, if_false, if_true, zcI_some, (hC ..).2.2.1, Option.bind_some, m1, mq_21 hi, mo_k hi, g_copy hi, zcV_some, mg_19_1, va_ne (show 2 ≠ 3 + i by omega), hd]
  · have d6 := hp.1
    dsimp only at hj ⊢
    unfold va_cpy
    rw [if_pos (by omega), if_pos (by omega), if_pos (by omega), show 0 + (18 * j + m - 0) = 18 * j + m by omega, show 0 + (18 * j + (6 + m) - 0) = 18 * j + (6 + m) by omega, show 0 + (18 * j + (12 + m) - 0) = 18 * j + (12 + m) by omega]
    exact (hp.2 j hj).2 m hm
theorem ck_on {i e : Nat} {M' : Nat → zDk} (hi : i < 3) (hK : K i = some (e, M')) (st : zSt r C d M K W Tx ta tu tl Ga Va n h) : ∃ h', zev r i_X5_on 0 [some (.ref (r.1 + 0)), some (.int (nI i))] [] h = some (some (.int (nI e)), h') ∧ zSt r C (e) (M') K W Tx ta tu tl Ga Va n h' := by
  obtain ⟨c, c2, I, J, Q, N, A, t, rfl, iv, t1, t2⟩ := st
  obtain ⟨k, hC, no, de, hd, hp, ke, -⟩ := id iv
  have k2 := k.2.1
  have f : zhk 3 (nI i) = 1 := zhk_in hi (by decide)
  have kk := ke i hi
  rw [hK] at kk
  obtain ⟨q1, q2⟩ := kk
  dsimp only at q1 q2
  have d6 := q2.1
  have miss : zev r i_X2_isMissing 0 [some (.ref (r.1 + 43 + 2 * i))] [] (zmk r c c c2 I J Q N A Ga Va t) = some (some (.int (if I (3 + i) = -1 then 1 else 0)), (zmk r c c c2 I J Q N A Ga Va t)) := by
    simp only [E_X2_isMissing_0, mgs_k hi, Option.bind_some]
    split <;> rfl
  have hp2 : zPa C e (va_cpy (Q (10 + i)) (Q 9) 0 0 1098) M' := ⟨d6, fun j hj => ⟨(q2.2 j hj).1, fun m hm => by
    unfold va_cpy
    rw [if_pos (by omega), if_pos (by omega), if_pos (by omega), show 0 + (18 * j + m - 0) = 18 * j + m by omega, show 0 + (18 * j + (6 + m) - 0) = 18 * j + (6 + m) by omega, show 0 + (18 * j + (12 + m) - 0) = 18 * j + (12 + m) by omega]
    exact (q2.2 j hj).2 m hm⟩⟩
  have pe := (hp2.2 e (Nat.le_refl e))
  obtain ⟨N', e1, e2, e3⟩ := g_back (d := e) (c0 := c) (c2 := c2) (I := va_up I 2 (I (3 + i))) (J := J) (Q := va_up Q 9 (va_cpy (Q (10 + i)) (Q 9) 0 0 1098)) (N := N) (A := A) (Ga := Ga) (Va := Va) k hC (e := e) (Nat.le_refl e) d6 (va_same.trans q1) (by rw [va_same]; exact vi_c (fun m hm => ((pe.2 m hm).1)) pe.1.1)
  rw [va_same] at e3
  rw [bx_uu] at e1
  have iv2 := iv_log iv e M' (va_cpy (Q (10 + i)) (Q 9) 0 0 1098) N' hp2 e2 (fun m hm => by
    obtain ⟨a1, a2, a3⟩ := e3 m hm
    obtain ⟨b1, b2, b3⟩ := pe.2 m hm
    exact ⟨a1.trans b1, a2.trans b2, a3.trans b3⟩)
  refine ⟨(zmk r c c c2 (va_up I 2 (nI e)) J (va_up Q 9 (va_cpy (Q (10 + i)) (Q 9) 0 0 1098)) (N') A Ga Va t), ?_, st_mk iv2 t1 t2⟩
  rw [q1] at e1
  simp only [E_X5_on_0, mo_0, mg_0_0, mg_0_1, mg_0_2, mg_0_3, mg_0_4, mg_0_5, mg_0_6, mg_0_7, mg_0_8, mg_0_9, mg_0_10, mg_0_11, mo_19, k_kept, f, i01, if_false, if_true, zcI_some, Option.bind_some, mq_21 hi, mo_k hi, miss, q1, nI_m1 (show e < 2 ^ 31 by omega), g_copy2 hi, zcV_some, mg_19_1, va_same, e1]
end CALLS5
