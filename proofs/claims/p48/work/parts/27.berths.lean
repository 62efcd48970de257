/-! BERTHS: what they tell -/
/-- berths at x, of the crew at c -/
def zBx (r : zE) (x c : Nat) (C : zCs) (F : zBr → zH) : Prop := ∀ B : zBr,
  zCv r c C (F B) ∧ zob r (F B) x 0 = true ∧ zgR r (F B) x 0 0 = some c ∧ zgR r (F B) x 0 1 = some (x + 1) ∧ zgR r (F B) x 0 2 = some (x + 2) ∧ zgR r (F B) x 0 3 = some (x + 3) ∧ zgR r (F B) x 0 4 = some (x + 4) ∧
  (∀ j, j < 6 → zaI r (F B) (x + 1) (nI j) = some (B.1 j)) ∧ (∀ j, j < 7 → zaI r (F B) (x + 2) (nI j) = some (B.2.1 j)) ∧ (∀ j, j < 6 → zaI r (F B) (x + 3) (nI j) = some (B.2.2.1 j)) ∧ (∀ j, j < 6 → zaI r (F B) (x + 4) (nI j) = some (B.2.2.2 j)) ∧
  (∀ j y, j < 6 → zsI r (F B) (x + 1) (nI j) y = some (F (upd B.1 j y, B.2.1, B.2.2.1, B.2.2.2))) ∧ (∀ j y, j < 7 → zsI r (F B) (x + 2) (nI j) y = some (F (B.1, upd B.2.1 j y, B.2.2.1, B.2.2.2))) ∧ (∀ j y, j < 6 → zsI r (F B) (x + 3) (nI j) y = some (F (B.1, B.2.1, upd B.2.2.1 j y, B.2.2.2))) ∧ (∀ j y, j < 6 → zsI r (F B) (x + 4) (nI j) y = some (F (B.1, B.2.1, B.2.2.1, upd B.2.2.2 j y))) ∧
  zaN r (F B) (x + 1) = some 6 ∧ zaN r (F B) (x + 2) = some 7
/-- hooks and holders tell the same -/
def zCG (C : zCs) (H G : zA) : Prop := (∀ m, m < C.2.1 → H m = -9 ∨ ∃ j, j < C.1 ∧ H m = nI j ∧ G j = nI m) ∧ ∀ j, j < C.1 → G j = -9 ∨ ∃ m, m < C.2.1 ∧ G j = nI m ∧ H m = nI j
def zLk (C : zCs) (L : zA) : Prop := ∀ m, m < C.2.1 → ∃ a, a < 10 ∧ L m = nI a
/-- what one on hook y brings -/
def sAt (C : zCs) (H G : zA) (y w : Int32) (u : Nat → Int32) : Int32 := if zhk C.1 y = 0 then 0 else if zhk C.2.1 (G y.toNatClampNeg) = 0 then 0 else if sIn C H (G y.toNatClampNeg).toNatClampNeg w = 0 then 0 else u (G y.toNatClampNeg).toNatClampNeg
/-! folds where at most one place counts -/
theorem zfd_zero {op : Int32 → Int32 → Int32} (h0 : ∀ a, op a 0 = a) {q : Nat → Int32} : ∀ {n j : Nat} {a : Int32}, (∀ k, j ≤ k → k < j + n → q k = 0) → zfd (fun a k => op a (q k)) j n a = a
  | 0, _, _, _ => rfl
  | n + 1, j, a, h => by
    rw [zfd, h j (Nat.le_refl _) (by omega), h0]
    exact zfd_zero h0 fun k h1 h2 => h k (by omega) (by omega)
theorem zfd_acc {op : Int32 → Int32 → Int32} (ha : ∀ a b c, op (op a b) c = op a (op b c)) (h0 : ∀ a, op a 0 = a) (hc : ∀ a b, op a b = op b a) {q : Nat → Int32} : ∀ {n j : Nat} {a : Int32}, zfd (fun a k => op a (q k)) j n a = op a (zfd (fun a k => op a (q k)) j n 0)
  | 0, _, _ => by simp only [zfd, h0]
  | n + 1, j, a => by
    rw [zfd, zfd, zfd_acc ha h0 hc (a := op a (q j)), zfd_acc ha h0 hc (a := op 0 (q j)), hc 0 (q j), h0, ha]
theorem zfd_two {op : Int32 → Int32 → Int32} (ha : ∀ a b c, op (op a b) c = op a (op b c)) (h0 : ∀ a, op a 0 = a) (hc : ∀ a b, op a b = op b a) {q q1 q2 : Nat → Int32} : ∀ {n j : Nat}, (∀ k, j ≤ k → k < j + n → q k = op (q1 k) (q2 k)) → zfd (fun a k => op a (q k)) j n 0 = op (zfd (fun a k => op a (q1 k)) j n 0) (zfd (fun a k => op a (q2 k)) j n 0)
  | 0, _, _ => by simp only [zfd, h0]
  | n + 1, j, h => by
    have e : ∀ z, op 0 z = z := fun z => by rw [hc, h0]
    rw [zfd, zfd, zfd, zfd_acc ha h0 hc, zfd_acc ha h0 hc (q := q1), zfd_acc ha h0 hc (q := q2), zfd_two ha h0 hc (q := q) (q1 := q1) (q2 := q2) (fun k h1 h2 => h k (by omega) (by omega)), h j (Nat.le_refl _) (by omega)]
    generalize zfd (fun a k => op a (q1 k)) (j + 1) n 0 = s1
    generalize zfd (fun a k => op a (q2 k)) (j + 1) n 0 = s2
    rw [e, e, e, ha, ha, ← ha (q2 j), hc (q2 j) s1, ha s1]
theorem zfd_one {op : Int32 → Int32 → Int32} (h0 : ∀ a, op a 0 = a) (hc : ∀ a b, op a b = op b a) {q : Nat → Int32} {i : Nat} : ∀ {n j : Nat}, j ≤ i → i < j + n → (∀ k, j ≤ k → k < j + n → k ≠ i → q k = 0) → zfd (fun a k => op a (q k)) j n 0 = q i
  | 0, j, h1, h2, _ => by omega
  | n + 1, j, h1, h2, h => by
    have e : ∀ z, op 0 z = z := fun z => by rw [hc, h0]
    rw [zfd, e]
    by_cases c : j = i
    · subst c
      exact zfd_zero h0 fun k h3 h4 => h k (by omega) (by omega) (by omega)
    · rw [h j (Nat.le_refl _) (by omega) c]
      exact zfd_one h0 hc (by omega) (by omega) fun k h3 h4 h5 => h k (by omega) (by omega) h5
theorem zCG_inj {C : zCs} {H G : zA} (g : zCG C H G) {m k j : Nat} (kC : zCk C) (hm : m < C.2.1) (hk : k < C.2.1) (hj : j < C.1) (e1 : H m = nI j) (e2 : H k = nI j) : m = k := by
  obtain ⟨k1, k2, -⟩ := kC
  rcases g.1 m hm with c | ⟨j1, a1, b1, d1⟩
  · exact absurd (e1.symm.trans c) (nI_n9 (by omega))
  rcases g.1 k hk with c | ⟨j2, a2, b2, d2⟩
  · exact absurd (e2.symm.trans c) (nI_n9 (by omega))
  have p1 : j1 = j := (nI_eq (by omega) (by omega)).mp (b1.symm.trans e1)
  have p2 : j2 = j := (nI_eq (by omega) (by omega)).mp (b2.symm.trans e2)
  subst p1 p2
  exact (nI_eq (by omega) (by omega)).mp (d1.symm.trans d2)
theorem sAt_fold {op : Int32 → Int32 → Int32} (h0 : ∀ a, op a 0 = a) (hc : ∀ a b, op a b = op b a) {C : zCs} {H G : zA} (g : zCG C H G) (kC : zCk C) (y w : Int32) (hy : ¬ y = -9) (u : Nat → Int32) :
    zfd (fun a k => op a (if H k = y then if sIn C H k w = 0 then 0 else u k else 0)) 0 C.2.1 0 = sAt C H G y w u := by
  obtain ⟨k1, k2, k3, -⟩ := id kC
  unfold sAt
  rcases zhk_cases C.1 (by omega) y with e | ⟨e, j, hj, rfl⟩
  · rw [if_pos e]
    refine zfd_zero h0 fun k _ hk => if_neg fun c => ?_
    rcases g.1 k (by omega) with q | ⟨j, a1, b1, -⟩
    · exact hy (c.symm.trans q)
    · rw [← c, b1, zhk_in a1 (by omega)] at e
      exact i01 e
  · rw [e, if_neg i01, nI_clamp (by omega)]
    rcases g.2 j hj with q | ⟨m, a1, b1, d1⟩
    · rw [q, zhk_none, if_pos rfl]
      refine zfd_zero h0 fun k _ hk => if_neg fun c => ?_
      rcases g.1 k (by omega) with q2 | ⟨j2, a2, b2, d2⟩
      · exact hy (c.symm.trans q2)
      · have : j2 = j := (nI_eq (by omega) (by omega)).mp (b2.symm.trans c)
        subst this
        exact nI_n9 (j := k) (by omega) (d2.symm.trans q)
    · rw [b1, zhk_in a1 (by omega), if_neg i01, nI_clamp (by omega)]
      rw [zfd_one (i := m) h0 hc (Nat.zero_le _) (by omega) fun k _ hk hn => if_neg fun c => hn (zCG_inj g kC (by omega) a1 hj c d1), if_pos d1]
theorem i32_sub1 {a b : Int32} : a - b = 1 ↔ a = b + 1 := ⟨fun e => by rw [← e, Int32.add_comm, Int32.sub_add_cancel], fun e => by rw [e, Int32.add_comm, Int32.add_sub_cancel]⟩
theorem i32_subm {a b : Int32} : a - b = -1 ↔ a = b - 1 := ⟨fun e => by rw [show a = a - b + b by rw [Int32.sub_add_cancel], e, Int32.add_comm, Int32.sub_eq_add_neg], fun e => by rw [e, Int32.sub_eq_add_neg b, Int32.add_comm, Int32.add_sub_cancel]⟩
theorem i32_pm (a : Int32) : ¬ a + 1 = a - 1 := fun q => by
  have h1 : a + 1 - a = 1 := i32_sub1.mpr rfl
  have h2 : a - 1 - a = -1 := i32_subm.mpr rfl
  rw [q, h2] at h1
  exact absurd h1 (by decide)
theorem sBes_op {C : zCs} {H : zA} {op : Int32 → Int32 → Int32} (h0 : ∀ a, op a 0 = a) (hc : ∀ a b, op a b = op b a) {m k : Nat} {w : Int32} (hm : ¬ H m = -9) (u : Int32) :
    (if sBes C H k m w = 0 then 0 else u) = op (if H k = H m - 1 then if sIn C H k w = 0 then 0 else u else 0) (if H k = H m + 1 then if sIn C H k w = 0 then 0 else u else 0) := by
  have e : ∀ z, op 0 z = z := fun z => by rw [hc, h0]
  unfold sBes
  rw [if_neg hm]
  by_cases c : sIn C H k w = 0
  · simp only [c, if_true, ite_self, h0]
  · simp only [c, if_false, i32_sub1, i32_subm]
    by_cases c1 : H k = H m + 1
    · simp only [c1, if_true, i01, if_false, i32_pm, e]
    · by_cases c2 : H k = H m - 1
      · simp only [c1, if_false, if_pos c2, i01, h0]
      · simp only [c1, c2, if_false, if_true, h0]
theorem sBe_at {C : zCs} {H G : zA} (g : zCG C H G) (kC : zCk C) {m : Nat} (hm : m < C.2.1) (w : Int32) (hn : ¬ H m = -9) : sBe C H m w = sAt C H G (H m - 1) w (fun k => (1 : Int32) <<< (nI k &&& 31)) ||| sAt C H G (H m + 1) w (fun k => (1 : Int32) <<< (nI k &&& 31)) := by
  have h0 : ∀ a : Int32, a ||| 0 = a := fun a => by simp
  have hc : ∀ a b : Int32, a ||| b = b ||| a := Int32.or_comm
  have ha : ∀ a b c : Int32, a ||| b ||| c = a ||| (b ||| c) := Int32.or_assoc
  obtain ⟨k1, k2, k3, -⟩ := id kC
  obtain ⟨j, hj, ej, -⟩ := (g.1 m hm).resolve_left hn
  have n1 : ¬ H m - 1 = -9 := by
    rw [ej]
    have : ∀ j, j < 7 → ¬ nI j - 1 = -9 := by decide +kernel
    exact this j (by omega)
  have n2 : ¬ H m + 1 = -9 := by
    rw [ej]
    have : ∀ j, j < 7 → ¬ nI j + 1 = -9 := by decide +kernel
    exact this j (by omega)
  unfold sBe
  rw [zfd_two (op := fun a b => a ||| b) ha h0 hc (fun k _ _ => sBes_op (op := fun a b => a ||| b) h0 hc hn _), sAt_fold (op := fun a b => a ||| b) h0 hc g kC _ _ n1, sAt_fold (op := fun a b => a ||| b) h0 hc g kC _ _ n2]
theorem sSu_at {C : zCs} {H G L : zA} (g : zCG C H G) (kC : zCk C) {m : Nat} (hm : m < C.2.1) (w : Int32) (hn : ¬ H m = -9) : sSu C H L m w (-9) = sPw (C.2.2.1 (H m).toNatClampNeg) + (sAt C H G (H m - 1) w (fun k => sWk C L k m) + sAt C H G (H m + 1) w (fun k => sWk C L k m)) := by
  have h0 : ∀ a : Int32, a + 0 = a := fun a => by simp
  have hc : ∀ a b : Int32, a + b = b + a := Int32.add_comm
  have ha : ∀ a b c : Int32, a + b + c = a + (b + c) := Int32.add_assoc
  obtain ⟨k1, k2, k3, -⟩ := id kC
  obtain ⟨j, hj, ej, -⟩ := (g.1 m hm).resolve_left hn
  have n1 : ¬ H m - 1 = -9 := by
    rw [ej]
    have : ∀ j, j < 7 → ¬ nI j - 1 = -9 := by decide +kernel
    exact this j (by omega)
  have n2 : ¬ H m + 1 = -9 := by
    rw [ej]
    have : ∀ j, j < 7 → ¬ nI j + 1 = -9 := by decide +kernel
    exact this j (by omega)
  unfold sSu
  rw [zfd_acc (op := fun a b => a + b) ha h0 hc, zfd_two (op := fun a b => a + b) (q1 := fun k => if H k = H m - 1 then if sIn C H k w = 0 then 0 else sWk C L k m else 0) (q2 := fun k => if H k = H m + 1 then if sIn C H k w = 0 then 0 else sWk C L k m else 0) ha h0 hc (fun k _ hk => by
    rw [if_neg (nI_n9 (by omega))]
    exact sBes_op (op := fun a b => a + b) h0 hc hn _), sAt_fold (op := fun a b => a + b) h0 hc g kC _ _ n1, sAt_fold (op := fun a b => a + b) h0 hc g kC _ _ n2]
