/-! CUT, WORST, BY, PAIRS, NIGHTS, WHO HANGS: what is so of them -/
theorem le_of_not {a b : Int32} (h : ¬ b < a) : a ≤ b := Int32.not_lt.mp h
section CUTS
variable {C : zCs} {H L : zA}
/-- the line told is 1 to 9, tells what it brings, and no line brings less -/
theorem cut_ok (k : zCk C) (l : zL1 C L) (v : zVd C H) {m : Nat} (hm : m < C.2.1) (w : Int32) : ∃ x, 1 ≤ x ∧ x < 10 ∧ (zfd (yCu C H L m w) 0 9 (-9, 1000000)).1 = nI x ∧ (zfd (yCu C H L m w) 0 9 (-9, 1000000)).2 = sAll C H (upd L m (nI x)) w ∧ ∀ y, 1 ≤ y → y < 10 → ¬ sAll C H (upd L m (nI y)) w < (zfd (yCu C H L m w) 0 9 (-9, 1000000)).2 := by
  have lk : ∀ y, y < 10 → zLk C (upd L m (nI y)) := fun y hy p hp => by
    by_cases z : p = m
    · subst z; rw [upd_s]; exact ⟨y, hy, rfl⟩
    · rw [upd_n z]; exact l1_lk l p hp
  have := zfd_inv (f := yCu C H L m w) (fun j (s : Int32 × Int32) => (j = 0 ∧ s = (-9, 1000000)) ∨ ∃ x, 1 ≤ x ∧ x < 1 + j ∧ s.1 = nI x ∧ s.2 = sAll C H (upd L m (nI x)) w ∧ ∀ y, 1 ≤ y → y < 1 + j → ¬ sAll C H (upd L m (nI y)) w < s.2) (j := 0) (n := 9) (s := (-9, 1000000)) (.inl ⟨rfl, rfl⟩) (fun s j _ hj P => by
    right
    unfold yCu
    rcases P with ⟨j0, s0⟩ | ⟨x, x1, xj, e1, e2, hy⟩
    · subst j0 s0
      obtain ⟨z, hz, ez⟩ := lim_sAll k (lk 1 (by decide)) v w
      rw [if_pos (show sAll C H (upd L m (nI (1 + 0))) w < (-9, (1000000 : Int32)).2 by
        show sAll C H (upd L m (nI 1)) w < 1000000
        rw [ez]; exact nI_lt (b := 1000000) (by omega) (by decide))]
      refine ⟨1, by decide, by decide, rfl, rfl, fun y y1 y2 => ?_⟩
      have : y = 1 := by omega
      subst this
      exact Int32.lt_irrefl
    · by_cases c : sAll C H (upd L m (nI (1 + j))) w < s.2
      · rw [if_pos c]
        refine ⟨1 + j, by omega, by omega, rfl, rfl, fun y y1 y2 => ?_⟩
        by_cases q : y = 1 + j
        · subst q; exact Int32.lt_irrefl
        · exact fun z => hy y y1 (by omega) (Int32.lt_trans z c)
      · rw [if_neg c]
        refine ⟨x, x1, by omega, e1, e2, fun y y1 y2 => ?_⟩
        by_cases q : y = 1 + j
        · subst q; exact c
        · exact hy y y1 (by omega))
  rcases this with ⟨z, -⟩ | ⟨x, x1, x2, e1, e2, hy⟩
  · exact absurd z (by decide)
  · exact ⟨x, x1, by omega, e1, e2, fun y y1 y2 => hy y y1 (by omega)⟩
theorem upd_me (L : zA) (m : Nat) : upd L m (L m) = L := upd_self L m
/-- who is woken most -/
theorem worst_ok (w : Int32) : ∀ n : Nat, (∀ m, m < n → ∃ x, x ≤ 190 ∧ sWo C H L m w (-9) = nI x) → (zfd (yWst C H L w) 0 n (-9, -1) = (-9, -1) ∧ ∀ m, m < n → sIn C H m w = 0) ∨ ∃ m, m < n ∧ ¬ sIn C H m w = 0 ∧ zfd (yWst C H L w) 0 n (-9, -1) = (nI m, sWo C H L m w (-9))
  | 0, _ => .inl ⟨rfl, fun m hm => absurd hm (Nat.not_lt_zero m)⟩
  | n + 1, hp => by
    have ih := worst_ok w n fun m hm => hp m (by omega)
    rw [zfd_succ, Nat.zero_add]
    generalize zfd (yWst C H L w) 0 n (-9, -1) = T at ih ⊢
    unfold yWst
    by_cases c : sIn C H n w = 0
    · rw [if_pos c]
      rcases ih with ⟨e, h⟩ | ⟨m, hm, h1, e⟩
      · refine .inl ⟨e, fun m hm => ?_⟩
        by_cases q : m = n
        · subst q; exact c
        · exact h m (by omega)
      · exact .inr ⟨m, by omega, h1, e⟩
    · rw [if_neg c]
      right
      by_cases d : T.2 < sWo C H L n w (-9)
      · rw [if_pos d]
        exact ⟨n, by omega, c, rfl⟩
      · rw [if_neg d]
        rcases ih with ⟨e, h⟩ | ⟨m, hm, h1, e⟩
        · obtain ⟨x, hx, ex⟩ := hp n (by omega)
          rw [e, ex] at d
          exact absurd (Int32.lt_of_lt_of_le (show (-1 : Int32) < 0 by decide) (nI_pos' (by omega))) d
        · exact ⟨m, by omega, h1, e⟩
theorem many_le (w : Int32) : ∀ n : Nat, ∃ x, x ≤ n ∧ zfd (fun (a : Int32) m => if sIn C H m w = 0 then a else a + 1) 0 n 0 = nI x ∧ (x = 0 ↔ ∀ m, m < n → sIn C H m w = 0) ∧ (x = n → ∀ m, m < n → ¬ sIn C H m w = 0)
  | 0 => ⟨0, Nat.le_refl _, rfl, ⟨fun _ m hm => absurd hm (Nat.not_lt_zero m), fun _ => rfl⟩, fun _ m hm => absurd hm (Nat.not_lt_zero m)⟩
  | n + 1 => by
    obtain ⟨x, hx, e, h1, h2⟩ := many_le w n
    rw [zfd_succ, Nat.zero_add, e]
    by_cases c : sIn C H n w = 0
    · rw [if_pos c]
      refine ⟨x, by omega, rfl, ⟨fun q m hm => ?_, fun q => h1.mpr fun m hm => q m (by omega)⟩, fun q => by omega⟩
      by_cases z : m = n
      · subst z; exact c
      · exact h1.mp q m (by omega)
    · rw [if_neg c, nI_1]
      refine ⟨x + 1, by omega, rfl, ⟨fun q => by omega, fun q => absurd (q n (by omega)) c⟩, fun q m hm => ?_⟩
      by_cases z : m = n
      · subst z; exact c
      · exact h2 (by omega) m (by omega)
/-- by whom -/
theorem by_ok (m : Nat) (w : Int32) : ∀ n : Nat, (∀ q, q < n → ¬ sWo C H L m w (-9) - sWo C H L m w (nI q) < 0) → (zfd (yBy C H L m w) 0 n (-9, -1) = (-9, -1) ∧ ∀ q, q < n → sBes C H q m w = 0) ∨ ∃ q, q < n ∧ ¬ sBes C H q m w = 0 ∧ zfd (yBy C H L m w) 0 n (-9, -1) = (nI q, sWo C H L m w (-9) - sWo C H L m w (nI q))
  | 0, _ => .inl ⟨rfl, fun m hm => absurd hm (Nat.not_lt_zero m)⟩
  | n + 1, hp => by
    have ih := by_ok m w n fun m hm => hp m (by omega)
    rw [zfd_succ, Nat.zero_add]
    generalize zfd (yBy C H L m w) 0 n (-9, -1) = T at ih ⊢
    unfold yBy
    by_cases c : sBes C H n m w = 0
    · rw [if_pos c]
      rcases ih with ⟨e, h⟩ | ⟨q, hq, h1, e⟩
      · refine .inl ⟨e, fun q hq => ?_⟩
        by_cases z : q = n
        · subst z; exact c
        · exact h q (by omega)
      · exact .inr ⟨q, by omega, h1, e⟩
    · rw [if_neg c]
      right
      by_cases d : T.2 < sWo C H L m w (-9) - sWo C H L m w (nI n)
      · rw [if_pos d]
        exact ⟨n, by omega, c, rfl⟩
      · rw [if_neg d]
        rcases ih with ⟨e, h⟩ | ⟨q, hq, h1, e⟩
        · rw [e] at d
          exact absurd (Int32.lt_of_lt_of_le (show (-1 : Int32) < 0 by decide) (Int32.not_lt.mp (hp n (by omega)))) d
        · exact ⟨q, by omega, h1, e⟩
theorem ysw_sym {m q : Nat} (hn : m ≠ q) : ySw H q m = ySw H m q := by
  funext p
  unfold ySw
  by_cases a : p = m
  · subst a
    rw [upd_n hn, upd_s, upd_s]
  · by_cases b : p = q
    · subst b
      rw [upd_s, upd_n (Ne.symm hn), upd_s]
    · rw [upd_n b, upd_n a, upd_n a, upd_n b]
theorem ysw_none {m q : Nat} (h1 : H m = -9) (h2 : H q = -9) : ySw H m q = H := by
  funext p
  unfold ySw
  by_cases a : p = m
  · subst a; rw [upd_s, h1, h2]
  · rw [upd_n a]
    by_cases b : p = q
    · subst b; rw [upd_s, h1, h2]
    · rw [upd_n b]
theorem sw_vd2 {f : zA} {m q : Nat} (hm : m < C.2.1) (hq : q < C.2.1) (v : zVd C f) : zVd C (ySw f m q) := fun p hp => by
  unfold ySw
  by_cases a : p = m
  · subst a; rw [upd_s]; exact v q hq
  · rw [upd_n a]
    by_cases b : p = q
    · subst b; rw [upd_s]; exact v m hm
    · rw [upd_n b]; exact v p hp
/-- the first pair -/
theorem pair_in (w : Int32) {m : Nat} (hm : m < 6) : ∀ n : Nat, m + 1 + n ≤ 6 → (zfd (yCi C H L w m) 0 n (-9) = -9 ∧ ∀ i, i < n → yGl C H L m (m + 1 + i) w = 0) ∨ ∃ i, i < n ∧ ¬ yGl C H L m (m + 1 + i) w = 0 ∧ zfd (yCi C H L w m) 0 n (-9) = nI (6 * m + (m + 1 + i)) ∧ ∀ j, j < i → yGl C H L m (m + 1 + j) w = 0
  | 0, _ => .inl ⟨rfl, fun m hm => absurd hm (Nat.not_lt_zero m)⟩
  | n + 1, hn => by
    have ih := pair_in w hm n (by omega)
    rw [zfd_succ, Nat.zero_add]
    generalize zfd (yCi C H L w m) 0 n (-9) = T at ih ⊢
    unfold yCi
    rcases ih with ⟨e, h⟩ | ⟨i, hi, h1, e, h2⟩
    · rw [if_pos e]
      by_cases c : yGl C H L m (m + 1 + n) w = 0
      · rw [if_pos c]
        refine .inl ⟨e, fun i hi => ?_⟩
        by_cases z : i = n
        · subst z; exact c
        · exact h i (by omega)
      · rw [if_neg c]
        exact .inr ⟨n, by omega, c, rfl, fun j hj => h j hj⟩
    · rw [if_neg (by rw [e]; exact nI_n9 (by omega))]
      exact .inr ⟨i, by omega, h1, e, h2⟩
theorem pair_ok (w : Int32) (h6 : C.2.1 ≤ 6) : (zfd (yCo C H L w) 0 C.2.1 (-9) = -9 ∧ ∀ m q, m < q → q < C.2.1 → yGl C H L m q w = 0) ∨ ∃ m q, m < q ∧ q < C.2.1 ∧ ¬ yGl C H L m q w = 0 ∧ zfd (yCo C H L w) 0 C.2.1 (-9) = nI (6 * m + q) ∧ ∀ m' q', m' < q' → q' < C.2.1 → ¬ yGl C H L m' q' w = 0 → 6 * m + q ≤ 6 * m' + q' := by
  suffices key : ∀ n : Nat, n ≤ C.2.1 → (zfd (yCo C H L w) 0 n (-9) = -9 ∧ ∀ m q, m < n → m < q → q < C.2.1 → yGl C H L m q w = 0) ∨ ∃ m q, m < n ∧ m < q ∧ q < C.2.1 ∧ ¬ yGl C H L m q w = 0 ∧ zfd (yCo C H L w) 0 n (-9) = nI (6 * m + q) ∧ ∀ m' q', m' < q' → q' < C.2.1 → ¬ yGl C H L m' q' w = 0 → 6 * m + q ≤ 6 * m' + q' by
    rcases key C.2.1 (Nat.le_refl _) with ⟨e, h⟩ | ⟨m, q, h0, h1, h2, h3, h4, h5⟩
    · exact .inl ⟨e, fun m q h1 h2 => h m q (by omega) h1 h2⟩
    · exact .inr ⟨m, q, h1, h2, h3, h4, h5⟩
  intro n
  induction n with
  | zero => exact fun _ => .inl ⟨rfl, fun m q hm => absurd hm (Nat.not_lt_zero m)⟩
  | succ n ih =>
    intro hn
    rw [zfd_succ, Nat.zero_add]
    rcases ih (by omega) with ⟨e, h⟩ | ⟨m, q, h0, h1, h2, h3, h4, h5⟩
    · rw [e]
      unfold yCo
      rcases pair_in (C := C) (H := H) (L := L) w (show n < 6 by omega) (C.2.1 - (n + 1)) (by omega) with ⟨e2, g⟩ | ⟨i, hi, g1, e2, g2⟩
      · refine .inl ⟨e2, fun m q hm hq hq2 => ?_⟩
        by_cases z : m = n
        · subst z
          have := g (q - (m + 1)) (by omega)
          rwa [show m + 1 + (q - (m + 1)) = q by omega] at this
        · exact h m q (by omega) hq hq2
      · refine .inr ⟨n, n + 1 + i, by omega, by omega, by omega, g1, e2, fun m' q' a1 a2 a3 => ?_⟩
        by_cases z : m' < n
        · exact absurd (h m' q' z a1 a2) a3
        · by_cases z2 : m' = n
          · subst z2
            by_cases z3 : q' < m' + 1 + i
            · have := g2 (q' - (m' + 1)) (by omega)
              rw [show m' + 1 + (q' - (m' + 1)) = q' by omega] at this
              exact absurd this a3
            · omega
          · omega
    · rw [show yCo C H L w (zfd (yCo C H L w) 0 n (-9)) n = zfd (yCo C H L w) 0 n (-9) from by
        have ne : ¬ zfd (yCo C H L w) 0 n (-9) = -9 := by rw [h4]; exact nI_n9 (by omega)
        exact yCo_stay (C := C) ne (q := 1) (j := n)]
      exact .inr ⟨m, q, by omega, h1, h2, h3, h4, h5⟩
theorem gl_01 (m q : Nat) (w : Int32) : yGl C H L m q w = 0 ∨ yGl C H L m q w = 1 := by
  unfold yGl
  repeat' split
  all_goals first | exact .inl rfl | exact .inr rfl
end CUTS
section NT
variable {C : zCs}
theorem su_le {f g : Nat → Int32} {b : Nat} (hb : b ≤ 1000) : ∀ n : Nat, n ≤ 6 → (∀ i, i < n → ∃ x y, x ≤ y ∧ y ≤ b ∧ f i = nI x ∧ g i = nI y) → ∃ x y, x ≤ y ∧ y ≤ b * n ∧ ySu f n = nI x ∧ ySu g n = nI y
  | 0, _, _ => ⟨0, 0, Nat.le_refl _, Nat.zero_le _, rfl, rfl⟩
  | n + 1, hn, h => by
    obtain ⟨x, y, h1, h2, h3, h4⟩ := su_le hb n (by omega) fun i hi => h i (by omega)
    obtain ⟨x', y', g1, g2, g3, g4⟩ := h n (by omega)
    rw [su_succ, su_succ, h3, h4, g3, g4, nI_add, nI_add]
    exact ⟨x + x', y + y', by omega, by rw [Nat.mul_succ]; omega, rfl, rfl⟩
/-- a night makes more tired by 0 at least, by no more than all are woken -/
theorem night_ok (k : zCk C) {D : zDk} (ok : zOk C D) (w : Int32) : ∃ x y, x ≤ y ∧ y ≤ 190 * C.2.1 ∧ yNv C D w = nI x ∧ sAll C D.1 D.2.1 w = nI y := by
  refine su_le (f := fun m => yNa C D.1 D.2.1 D.2.2 w m - D.2.2 m) (g := fun m => sWo C D.1 D.2.1 m w (-9)) (by decide) C.2.1 k.2.1 fun m hm => ?_
  obtain ⟨a, b, x, ha, hx, ea, ex, eb, hb, h1, h2⟩ := na_t9 k ok w hm
  refine ⟨b - a, x, by omega, hx, ?_, ex⟩
  rw [eb, ea, pk_sub h1]
theorem tired_su (C : zCs) (T : zA) : sTired C T = ySu T C.2.1 := rfl
theorem night_tired (D : zDk) (w : Int32) : sTired C (yNd C D w).2.2 = sTired C D.2.2 + yNv C D w := by
  rw [tired_su, tired_su]
  unfold yNv
  rw [← su_add]
  refine su_c fun m _ => ?_
  show yNa C D.1 D.2.1 D.2.2 w m = D.2.2 m + (yNa C D.1 D.2.1 D.2.2 w m - D.2.2 m)
  rw [Int32.add_comm, Int32.sub_add_cancel]
/-- who hangs at a hook -/
theorem who_ok {H : zA} {v : Int32} : ∀ n j : Nat, (sWho H v j n = -9 ∧ ∀ m, j ≤ m → m < j + n → ¬ H m = v) ∨ ∃ m, j ≤ m ∧ m < j + n ∧ H m = v ∧ sWho H v j n = nI m
  | 0, j => .inl ⟨rfl, fun m h1 h2 => by omega⟩
  | n + 1, j => by
    rw [sWho]
    by_cases c : H j = v
    · rw [if_pos c]
      exact .inr ⟨j, Nat.le_refl _, by omega, c, rfl⟩
    · rw [if_neg c]
      rcases who_ok (H := H) (v := v) n (j + 1) with ⟨e, h⟩ | ⟨m, h1, h2, h3, h4⟩
      · refine .inl ⟨e, fun m h1 h2 => ?_⟩
        by_cases z : m = j
        · subst z; exact c
        · exact h m (by omega) (by omega)
      · exact .inr ⟨m, by omega, by omega, h3, h4⟩
/-- how many hooks are held is how many hang -/
theorem hang_count (k : zCk C) {H : zA} (v : zVI C H) : ySu (fun h => if sWho H (nI h) 0 C.2.1 = -9 then 0 else 1) C.1 = sMany C H 0 := by
  have k1 := k.1
  have k2 := k.2.1
  have e1 : sMany C H 0 = ySu (fun m => ySu (fun h => if H m = nI h then 1 else 0) C.1) C.2.1 := by
    show zfd (fun (a : Int32) m => if sIn C H m 0 = 0 then a else a + 1) 0 C.2.1 0 = zfd (fun (a : Int32) m => a + ySu (fun h => if H m = nI h then 1 else 0) C.1) 0 C.2.1 0
    refine zfd_congr fun s m _ hm => ?_
    unfold sIn
    rcases v.1 m (by omega) with z | ⟨j, hj, ej⟩
    · rw [if_pos z, if_pos rfl]
      have : ySu (fun h => if H m = nI h then 1 else 0) C.1 = 0 := su_zero (f := fun h => if H m = nI h then 1 else 0) fun h hh => if_neg fun q => nI_n9 (show h < 2 ^ 31 by omega) (q.symm.trans z)
      rw [this, Int32.add_zero]
    · have hn : ¬ H m = -9 := by rw [ej]; exact nI_n9 (by omega)
      rw [if_neg hn, if_pos rfl, if_neg i01]
      have : ySu (fun h => if H m = nI h then 1 else 0) C.1 = 1 := (su_one (f := fun h => if H m = nI h then 1 else 0) hj fun h hh hn => if_neg fun q => hn ((nI_eq (by omega) (by omega)).mp (q.symm.trans ej))).trans (if_pos ej)
      rw [this]
  rw [e1, su_swap]
  refine su_c fun h hh => ?_
  rcases who_ok (H := H) (v := nI h) C.2.1 0 with ⟨e, n⟩ | ⟨m, _, hm, em, e⟩
  · rw [e, if_pos rfl]
    exact (su_zero fun m hm => if_neg (n m (by omega) (by omega))).symm
  · rw [e, if_neg (nI_n9 (by omega))]
    refine ((su_one (f := fun m => if H m = nI h then 1 else 0) (show m < C.2.1 by omega) fun q hq hn => if_neg fun z => hn (v.2 q m hq (by omega) (z.trans em.symm) (by rw [z]; exact nI_n9 (by omega)))).trans (if_pos em)).symm
end NT
