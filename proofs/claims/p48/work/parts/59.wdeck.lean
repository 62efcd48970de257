/-! THE DECK that the law lays: what it writes is read without a fault -/
theorem and_nI (v : Int32) {k : Nat} (hk : k < 2 ^ 31) : ∃ a, a ≤ k ∧ v &&& nI k = nI a := by
  have h4 : (nI k).toBitVec.toNat = k := by
    show (Int32.ofNat k).toBitVec.toNat = k
    rw [Int32.toBitVec_ofNat', BitVec.toNat_ofNat]
    exact Nat.mod_eq_of_lt (by omega)
  have key : (v &&& nI k).toBitVec.toNat ≤ k := by
    rw [Int32.toBitVec_and, BitVec.toNat_and]
    exact Nat.le_trans Nat.and_le_right (Nat.le_of_eq h4)
  refine ⟨(v &&& nI k).toBitVec.toNat, key, ?_⟩
  apply Int32.toBitVec_inj.mp
  apply BitVec.eq_of_toNat_eq
  show _ = (Int32.ofNat _).toBitVec.toNat
  rw [Int32.toBitVec_ofNat', BitVec.toNat_ofNat]
  exact (Nat.mod_eq_of_lt (by omega)).symm
section RT
variable {T : zA} {n g m : Nat}
theorem sk_to : ∀ {q f p : Nat}, q < f → (∀ i, p ≤ i → i < p + q → i < n ∧ T i = 32) → (n ≤ p + q ∨ ¬ T (p + q) = 32) → rSk T n f p = p + q
  | 0, f + 1, p, _, _, h => by
    rw [rSk]
    by_cases c : p < n
    · rw [if_pos c]
      have : ¬ T p = 32 := by
        rcases h with h | h
        · omega
        · exact h
      rw [if_neg this]
      rfl
    · rw [if_neg c]
      rfl
  | q + 1, f + 1, p, hf, h1, h => by
    obtain ⟨a1, a2⟩ := h1 p (Nat.le_refl _) (by omega)
    have e : p + 1 + q = p + (q + 1) := by omega
    rw [rSk, if_pos a1, if_pos a2, sk_to (q := q) (by omega) (fun i h2 h3 => h1 i (by omega) (by omega)) (by rw [e]; exact h)]
    exact e
theorem lt_32 : rLt zPL 32 0 5 = -9 := by decide
theorem lt_32k : rLt zKL 32 0 6 = -9 := by decide
theorem hk_to (g2 : 2 ≤ g) (g7 : g ≤ 7) (hl : ∀ p, 0 < p → p ≤ g → ¬ rLt zPL (T p) 0 5 = -9) (h32 : T (1 + g) = 32) (mm : Nat) (B : zA × zA × zA × zA) : ∀ (k j f : Nat) (A : zA), j + k = g → k < f → ∃ A', rHk T 60 f (1 + j, j, mm, A, B) = (true, (1 + g, g, mm, A', B)) := by
  intro k
  induction k with
  | zero =>
    intro j f A e hf
    have : j = g := by omega
    subst this
    obtain ⟨f, rfl⟩ : ∃ f', f = f' + 1 := ⟨f - 1, by omega⟩
    refine ⟨A, ?_⟩
    have q : ¬ j < 2 := by omega
    simp only [rHk, h32, lt_32, if_true, if_pos (show 1 + j < 60 by omega), q, decide_false, Bool.not_false]
  | succ k ih =>
    intro j f A e hf
    obtain ⟨f, rfl⟩ : ∃ f', f = f' + 1 := ⟨f - 1, by omega⟩
    have h1 := hl (1 + j) (by omega) (by omega)
    obtain ⟨A', eA⟩ := ih (j + 1) f (upd A j (rLt zPL (T (1 + j)) 0 5)) (by omega) (by omega)
    refine ⟨A', ?_⟩
    simp only [rHk, if_pos (show 1 + j < 60 by omega), if_neg h1, if_neg (show ¬ j = 7 by omega)]
    exact eA
theorem fg_ok {lo hi a p : Nat} (hp : p < 60) (e : T p = nI (48 + a)) (h1 : lo ≤ a) (h2 : a ≤ hi) (h9 : hi ≤ 9) : rFg T 60 lo hi p = true := by
  have z : zbw (nI (48 + lo)) (nI (48 + hi)) (T p) = 1 := by
    rw [e]
    unfold zbw
    rw [if_neg (nI_nlt (by omega) (by omega)), if_neg (nI_nlt (by omega) (by omega))]
  unfold rFg
  rw [z]
  simp [hp]
theorem ms_to (m6 : m ≤ 6) (mg : m ≤ g) (m0 : 0 < m) (hk : ∀ p, p < m → ¬ rLt zKL (T (9 + 5 * p)) 0 6 = -9) (h1 : ∀ p, p < m → rFg T 60 1 9 (9 + 5 * p + 1) = true) (h2 : ∀ p, p < m → rFg T 60 0 1 (9 + 5 * p + 2) = true) (h3 : ∀ p, p < m → rFg T 60 0 3 (9 + 5 * p + 3) = true) (h4 : ∀ p, p < m → T (9 + 5 * p + 4) = 32) (h5 : ∀ p, 9 + 5 * m ≤ p → p < 60 → T p = 32) :
    ∀ (k j : Nat) (A B L W S : zA), j + k = m → (∀ p, p < j → L p = T (9 + 5 * p + 1) - 48) → ∃ B' L' W' S', rMs T 60 (6 - j) (if j < m then 9 + 5 * j else 60, g, j, A, B, L, W, S) = (-9, (60, g, m, A, B', L', W', S')) ∧ ∀ p, p < m → L' p = T (9 + 5 * p + 1) - 48 := by
  intro k
  induction k with
  | zero =>
    intro j A B L W S e hL
    have : j = m := by omega
    subst this
    refine ⟨B, L, W, S, ?_, hL⟩
    rw [if_neg (Nat.lt_irrefl _)]
    generalize 6 - j = f
    cases f with
    | zero => simp only [rMs, if_neg (Nat.lt_irrefl 60), if_pos m0]
    | succ f => simp only [rMs, if_neg (Nat.lt_irrefl 60), if_pos m0]
  | succ k ih =>
    intro j A B L W S e hL
    have hj : j < m := by omega
    have e6 : 6 - j = (6 - (j + 1)) + 1 := by omega
    have eM : rMn T 60 (9 + 5 * j, g, j, A, B, L, W, S) = (true, 9 + 5 * j + 4, g, j + 1, A, upd B j (rLt zKL (T (9 + 5 * j)) 0 6), upd L j (T (9 + 5 * j + 1) - 48), upd W j (T (9 + 5 * j + 2) - 48), upd S j (T (9 + 5 * j + 3) - 48)) := by
      simp only [rMn, if_neg (hk j hj), if_pos (h1 j hj), if_pos (h2 j hj), if_pos (h3 j hj)]
    have eS : rSk T 60 60 (9 + 5 * j + 4) = if j + 1 < m then 9 + 5 * (j + 1) else 60 := by
      by_cases c : j + 1 < m
      · rw [if_pos c, sk_to (q := 1) (by omega) (fun i a1 a2 => ?_) (.inr fun z => ?_)]
        · omega
        · have : i = 9 + 5 * j + 4 := by omega
          rw [this]
          exact ⟨by omega, h4 j hj⟩
        · apply hk (j + 1) c
          rw [show 9 + 5 * (j + 1) = 9 + 5 * j + 4 + 1 by omega, z]
          exact lt_32k
      · rw [if_neg c, sk_to (q := 60 - (9 + 5 * j + 4)) (by omega) (fun i a1 a2 => ?_) (.inl (by omega))]
        · omega
        · refine ⟨by omega, ?_⟩
          by_cases z : i = 9 + 5 * j + 4
          · rw [z]; exact h4 j hj
          · exact h5 i (by omega) (by omega)
    obtain ⟨B', L', W', S', e1, e2⟩ := ih (j + 1) A (upd B j (rLt zKL (T (9 + 5 * j)) 0 6)) (upd L j (T (9 + 5 * j + 1) - 48)) (upd W j (T (9 + 5 * j + 2) - 48)) (upd S j (T (9 + 5 * j + 3) - 48)) (by omega) (fun p hp => by
      by_cases z : p = j
      · rw [z, upd_s]
      · rw [upd_n z]; exact hL p (by omega))
    refine ⟨B', L', W', S', ?_, e2⟩
    rw [if_pos hj, e6]
    simp only [rMs, if_pos (show 9 + 5 * j < 60 by omega), if_pos (show j < 6 ∧ j < g from ⟨by omega, by omega⟩), eM, if_true, eS]
    exact e1
theorem all_to (g2 : 2 ≤ g) (g7 : g ≤ 7) (m6 : m ≤ 6) (mg : m ≤ g) (m0 : 0 < m) (h0 : T 0 = 107) (hl : ∀ p, 0 < p → p ≤ g → ¬ rLt zPL (T p) 0 5 = -9) (h32 : ∀ p, g < p → p < 9 → T p = 32) (hk : ∀ p, p < m → ¬ rLt zKL (T (9 + 5 * p)) 0 6 = -9) (h1 : ∀ p, p < m → rFg T 60 1 9 (9 + 5 * p + 1) = true) (h2 : ∀ p, p < m → rFg T 60 0 1 (9 + 5 * p + 2) = true) (h3 : ∀ p, p < m → rFg T 60 0 3 (9 + 5 * p + 3) = true) (h4 : ∀ p, p < m → T (9 + 5 * p + 4) = 32) (h5 : ∀ p, 9 + 5 * m ≤ p → p < 60 → T p = 32) : ∃ A B L W S, rAll T 60 = (-9, (60, g, m, A, B, L, W, S)) ∧ ∀ p, p < m → L p = T (9 + 5 * p + 1) - 48 := by
  have e0 : rSk T 60 60 0 = 0 := sk_to (q := 0) (by omega) (fun i a1 a2 => absurd a2 (by omega)) (.inr (by rw [show T (0 + 0) = 107 from h0]; decide))
  obtain ⟨A, eA⟩ := hk_to g2 g7 hl (h32 (1 + g) (by omega) (by omega)) 0 (fun _ => 0, fun _ => 0, fun _ => 0, fun _ => 0) g 0 61 (fun _ => 0) (by omega) (by omega)
  have e1 : rGo T 60 (0, 0, 0, rZ) = (true, (1 + g, g, 0, A, (fun _ => 0, fun _ => 0, fun _ => 0, fun _ => 0))) := by
    unfold rGo
    rw [if_pos ⟨by decide, h0⟩]
    exact eA
  have e9 : rSk T 60 60 (1 + g) = 9 := by
    rw [sk_to (q := 8 - g) (by omega) (fun i a1 a2 => ⟨by omega, h32 i (by omega) (by omega)⟩) (.inr fun z => hk 0 m0 ?_)]
    · omega
    · rw [show 1 + g + (8 - g) = 9 + 5 * 0 by omega] at z
      rw [z]
      exact lt_32k
  obtain ⟨B, L, W, S, eM, hL⟩ := ms_to m6 mg m0 hk h1 h2 h3 h4 h5 m 0 A (fun _ => 0) (fun _ => 0) (fun _ => 0) (fun _ => 0) (by omega) (fun p hp => absurd hp (Nat.not_lt_zero _))
  rw [if_pos m0] at eM
  refine ⟨A, B, L, W, S, ?_, hL⟩
  simp only [rAll, e0, e1, if_true, e9]
  exact eM
end RT
def zDkR (r : zE) (W Tx : Nat → Option (List Int32)) (n : Nat) (q : Option zRes) : Prop := ∃ l Ga Va h, q = some (some (.int 1), h) ∧ zSx r (yCw l) (0) (fun _ => yD0 l) (fun _ => none) W (va_up Tx 0 (some l)) Ga Va (n + 2) h ∧ Ga 0 = nI (yCw l).1 ∧ Ga 1 = nI (yCw l).2.1 ∧ 0 < (yCw l).2.1 ∧ zSy (yCw l) (yD0 l) Va ∧ (rAll (yTx l) l.length).1 = -9 ∧ ∀ m, m < (yCw l).2.1 → ∃ a, 1 ≤ a ∧ a < 10 ∧ (yD0 l).2.1 m = nI a
/-- the text so far: g hooks, i men of it told -/
def zTI (l : List Int32) (g i : Nat) (Va : zA) : Prop := l.length = 60 ∧ l.getD 0 0 = 107 ∧ (∀ p, 0 < p → p ≤ g → ¬ rLt zPL (l.getD p 0) 0 5 = -9) ∧ (∀ p, g < p → p < 9 → l.getD p 0 = 32) ∧ (∀ p, p < i → ¬ rLt zKL (l.getD (9 + 5 * p) 0) 0 6 = -9 ∧ (∃ a, 1 ≤ a ∧ a < 10 ∧ l.getD (9 + 5 * p + 1) 0 = nI (48 + a) ∧ Va (6 + p) = nI a) ∧ (∃ b, b ≤ 1 ∧ l.getD (9 + 5 * p + 2) 0 = nI (48 + b)) ∧ (∃ b, b ≤ 3 ∧ l.getD (9 + 5 * p + 3) 0 = nI (48 + b)) ∧ l.getD (9 + 5 * p + 4) 0 = 32) ∧ ∀ p, 9 + 5 * i ≤ p → p < 60 → l.getD p 0 = 32
theorem w_let (r : zE) (h : zH) (v : Int32) : ∃ k, zev r i_L_letter 0 [some (.int v)] [] h = some (some (.int k), h) ∧ ¬ rLt zKL k 0 6 = -9 ∧ k.toInt8.toInt32 = k := by
  rw [E_L_letter_0]
  repeat' split
  all_goals exact ⟨_, rfl, by decide, by decide⟩
theorem w_pl (r : zE) (h : zH) (v : Int32) : ∃ k, zev r i_L_placeLetter 0 [some (.int v)] [] h = some (some (.int k), h) ∧ ¬ rLt zPL k 0 5 = -9 ∧ k.toInt8.toInt32 = k := by
  rw [E_L_placeLetter_0]
  repeat' split
  all_goals exact ⟨_, rfl, by decide, by decide⟩
theorem dig_8 : ∀ a, a < 10 → (nI (48 + a)).toInt8.toInt32 = nI (48 + a) := by decide
section DK
variable {r : zE} {C : zCs} {d : Nat} {M : Nat → zDk} {K : Nat → Option (Nat × (Nat → zDk))} {W Tx : Nat → Option (List Int32)} {Ga Va : zA} {n : Nat} {h : zH} {b L : Nat} {xs : Nat → Int32} {g m : Nat} {x : Int32}
theorem d_214 (E : zEk r) (hE : zEnv r b L xs) (hL : L ≤ 260) (g2 : 2 ≤ g) (g7 : g ≤ 7) (m6 : m ≤ 6) (mg : m ≤ g) (m0 : 0 < m) : ∀ k i l Ga Va h, i + k = m → zTI l g i Va → Ga 0 = nI g → Ga 1 = nI m → (∀ p, p < 6 → Va p = if p < m then nI p else -9) → zSx r C d M K W (va_up Tx 0 (some l)) Ga Va n h → zDkR r W Tx n (zev r i_L_deck 214 [some (.ref (r.1 + 0)), some (.ref b), some (.ref (r.1 + 49)), some (.ref (r.1 + 50)), some (.int x), some (.int 1), some (.int (nI i)), none] [] h) := by
  intro k
  induction k with
  | zero =>
    intro i l Ga Va h e ti g0 g1 hv sx
    have : i = m := by omega
    subst this
    obtain ⟨ta, tu, tl, st⟩ := sx
    obtain ⟨t1, t2, t3, t4, t5, t6⟩ := ti
    have r1 : zaI r h (r.1 + 49) 1 = some (nI i) := (st_g (j := 1) (by decide) st).trans (by rw [g1])
    obtain ⟨A, B, L', W', S, eA, hA⟩ := all_to (T := yTx l) g2 g7 m6 mg m0 t2 t3 t4 (fun p hp => (t5 p hp).1) (fun p hp => by
      obtain ⟨a, a1, a2, a3, -⟩ := (t5 p hp).2.1
      exact fg_ok (by omega) a3 a1 (by omega) (by decide)) (fun p hp => by
      obtain ⟨a, a1, a3⟩ := (t5 p hp).2.2.1
      exact fg_ok (by omega) a3 (by omega) a1 (by decide)) (fun p hp => by
      obtain ⟨a, a1, a3⟩ := (t5 p hp).2.2.2.1
      exact fg_ok (by omega) a3 (by omega) a1 (by decide)) (fun p hp => (t5 p hp).2.2.2.2) t6
    rw [← t1] at eA
    have c1 : (yCw l).1 = g := by unfold yCw; rw [eA]
    have c2 : (yCw l).2.1 = i := by unfold yCw; rw [eA]
    have c3 : (yD0 l).2.1 = L' := by unfold yD0; rw [eA]
    have c4 : (rAll (yTx l) l.length).1 = -9 := by rw [eA]
    have hl1 : ∀ p, p < (yCw l).2.1 → ∃ a, 1 ≤ a ∧ a < 10 ∧ (yD0 l).2.1 p = nI a := fun p hp => by
      rw [c2] at hp
      obtain ⟨a, a1, a2, a3, -⟩ := (t5 p hp).2.1
      refine ⟨a, a1, a2, ?_⟩
      rw [c3, hA p hp, show yTx l (9 + 5 * p + 1) = nI (48 + a) from a3, show (48 : Int32) = nI 48 from rfl, pk_sub (by omega), show 48 + a - 48 = a by omega]
    obtain ⟨h1, e1, st1⟩ := ck_fault E (j := 0) (l := l) (by decide) va_same st
    obtain ⟨h2, e2, st2⟩ := ck_deck E (j := 0) (l := l) (by decide) va_same c4 hl1 st1
    rw [nl0] at e1 e2
    have r2 : zaI r h2 (r.1 + 49) 1 = some (nI i) := (st_g (j := 1) (by decide) st2).trans (by rw [g1])
    rw [E_L_deck_214, r1, Option.bind_some, if_neg (nI_nlt (Nat.le_refl _) (by omega)), if_neg i01, if_pos (st_ob st), e1, zcI_some, if_pos c4, if_pos (st_ob st1), e2, zcI_some, r2, Option.bind_some, if_pos (by rw [c2])]
    refine ⟨l, Ga, Va, h2, rfl, sx_of st2, by rw [c1]; exact g0, by rw [c2]; exact g1, by rw [c2]; exact m0, ⟨fun p hp => ?_, fun p hp => ?_⟩, c4, hl1⟩
    · rw [c2]; exact hv p hp
    · rw [c2] at hp
      obtain ⟨a, a1, a2, a3, a4⟩ := (t5 p hp).2.1
      rw [a4, c3, hA p hp, show yTx l (9 + 5 * p + 1) = nI (48 + a) from a3, show (48 : Int32) = nI 48 from rfl, pk_sub (by omega), show 48 + a - 48 = a by omega]
  | succ k ih =>
    intro i l Ga Va h e ti g0 g1 hv sx
    have hi : i < m := by omega
    obtain ⟨ta, tu, tl, st⟩ := sx
    obtain ⟨t1, t2, t3, t4, t5, t6⟩ := ti
    have r1 : zaI r h (r.1 + 49) 1 = some (nI m) := (st_g (j := 1) (by decide) st).trans (by rw [g1])
    obtain ⟨v2, ev⟩ := w_cell hE h (k := 1 + i) (by omega) hL
    obtain ⟨v3, h3, e3⟩ := w_low r h v2 (m := 6) (by decide) (by decide)
    obtain ⟨h4, s4, st4⟩ := st_sg (j := 9 + i) (by omega) (nI v3) st
    obtain ⟨v4, hv4, e4⟩ := w_low r h4 (v2 >>> ((3 : Int32) &&& 31)) (m := 9) (by decide) (by decide)
    obtain ⟨h5, s5, st5⟩ := st_sv (j := 6 + i) (by omega) (nI (1 + v4)) st4
    obtain ⟨w1, hw1, ew1⟩ := and_nI (v2 >>> ((7 : Int32) &&& 31)) (k := 1) (by decide)
    obtain ⟨w2, hw2, ew2⟩ := and_nI (v2 >>> ((8 : Int32) &&& 31)) (k := 3) (by decide)
    obtain ⟨h6, s6, st6⟩ := st_sg (j := 15 + i) (by omega) (nI w1) st5
    obtain ⟨h7, s7, st7⟩ := st_sg (j := 21 + i) (by omega) (nI w2) st6
    have r3 := st_g (j := 9 + i) (by omega) st7
    rw [upd_n (by omega), upd_n (by omega), upd_s] at r3
    obtain ⟨kk, ek, hk1, hk2⟩ := w_let r h7 (nI v3)
    obtain ⟨h8, e8, st8⟩ := ck_put (j := 0) (i := 9 + 5 * i) (l := l) kk (by decide) va_same (by omega) st7
    rw [up_up, hk2] at st8
    rw [t6 _ (by omega) (by omega)] at e8
    have r4 := st_v (j := 6 + i) (by omega) st8
    rw [upd_s] at r4
    obtain ⟨h9, e9, st9⟩ := ck_put (j := 0) (i := 10 + 5 * i) (nI (48 + (1 + v4))) (by decide) va_same (by rw [List.length_set]; omega) st8
    rw [up_up, dig_8 _ (by omega)] at st9
    rw [getD_setI (by omega), if_neg (by omega), t6 _ (by omega) (by omega)] at e9
    have r5 := st_g (j := 15 + i) (by omega) st9
    rw [upd_n (by omega), upd_s] at r5
    obtain ⟨h10, e10, st10⟩ := ck_put (j := 0) (i := 11 + 5 * i) (nI (48 + w1)) (by decide) va_same (by rw [List.length_set, List.length_set]; omega) st9
    rw [up_up, dig_8 _ (by omega)] at st10
    rw [getD_setI (by rw [List.length_set]; omega), if_neg (by omega), getD_setI (by omega), if_neg (by omega), t6 _ (by omega) (by omega)] at e10
    have r6 := st_g (j := 21 + i) (by omega) st10
    rw [upd_s] at r6
    obtain ⟨h11, e11, st11⟩ := ck_put (j := 0) (i := 12 + 5 * i) (nI (48 + w2)) (by decide) va_same (by rw [List.length_set, List.length_set, List.length_set]; omega) st10
    rw [up_up, dig_8 _ (by omega)] at st11
    rw [getD_setI (by rw [List.length_set, List.length_set]; omega), if_neg (by omega), getD_setI (by rw [List.length_set]; omega), if_neg (by omega), getD_setI (by omega), if_neg (by omega), t6 _ (by omega) (by omega)] at e11
    rw [nl0] at e8 e9 e10 e11
    have get : ∀ q, ((((l.set (9 + 5 * i) kk).set (10 + 5 * i) (nI (48 + (1 + v4)))).set (11 + 5 * i) (nI (48 + w1))).set (12 + 5 * i) (nI (48 + w2))).getD q 0 = if q = 12 + 5 * i then nI (48 + w2) else if q = 11 + 5 * i then nI (48 + w1) else if q = 10 + 5 * i then nI (48 + (1 + v4)) else if q = 9 + 5 * i then kk else l.getD q 0 := fun q => by
      rw [getD_setI (by rw [List.length_set, List.length_set, List.length_set]; omega), getD_setI (by rw [List.length_set, List.length_set]; omega), getD_setI (by rw [List.length_set]; omega), getD_setI (by omega)]
    have o1 : (1 : Int32) + nI i = nI (1 + i) := nI_add 1 i
    have o9 : (9 : Int32) + nI i = nI (9 + i) := nI_add 9 i
    have o6 : (6 : Int32) + nI i = nI (6 + i) := nI_add 6 i
    have o15 : (15 : Int32) + nI i = nI (15 + i) := nI_add 15 i
    have o21 : (21 : Int32) + nI i = nI (21 + i) := nI_add 21 i
    have o14 : (1 : Int32) + nI v4 = nI (1 + v4) := nI_add 1 v4
    have o5 : (5 : Int32) * nI i = nI (5 * i) := pk_mul 5 i
    have p9 : (9 : Int32) + nI (5 * i) = nI (9 + 5 * i) := nI_add 9 _
    have p10 : (10 : Int32) + nI (5 * i) = nI (10 + 5 * i) := nI_add 10 _
    have p11 : (11 : Int32) + nI (5 * i) = nI (11 + 5 * i) := nI_add 11 _
    have p12 : (12 : Int32) + nI (5 * i) = nI (12 + 5 * i) := nI_add 12 _
    have q1 : (48 : Int32) + nI (1 + v4) = nI (48 + (1 + v4)) := nI_add 48 _
    have q2 : (48 : Int32) + nI w1 = nI (48 + w1) := nI_add 48 _
    have q3 : (48 : Int32) + nI w2 = nI (48 + w2) := nI_add 48 _
    have m6' : (6 : Int32) = nI 6 := rfl
    have m9' : (9 : Int32) = nI 9 := rfl
    have x1 : v2 >>> ((7 : Int32) &&& 31) &&& (1 : Int32) = nI w1 := ew1
    have x2 : v2 >>> ((8 : Int32) &&& 31) &&& (3 : Int32) = nI w2 := ew2
    have k1 : (32 : Int32) + 1000 = 1032 := by decide
    have e3' : zev r i_L_low 0 [some (.int v2), some (.int (6 : Int32))] [] h = some (some (.int (nI v3)), h) := e3
    have e4' : zev r i_L_low 0 [some (.int (v2 >>> ((3 : Int32) &&& 31))), some (.int (9 : Int32))] [] h4 = some (some (.int (nI v4)), h4) := e4
    rw [E_L_deck_214, r1, Option.bind_some, if_pos (nI_lt hi (by omega)), o1, ev, zcI_some, e3', zcI_some, o9, s4, Option.bind_some, e4', zcI_some, o6, o14, s5, Option.bind_some, o15, x1, s6, Option.bind_some, o21, x2, s7, Option.bind_some, if_neg i01, r3, Option.bind_some, ek, zcI_some, if_pos (st_ob st7), o5, p9, e8, zcI_some, if_pos k1, r4, Option.bind_some, if_pos (st_ob st8), p10, q1, e9, zcI_some, if_pos k1, r5, Option.bind_some, if_pos (st_ob st9), p11, q2, e10, zcI_some, if_pos k1, r6, Option.bind_some, if_pos (st_ob st10), p12, q3, e11, zcI_some, if_pos k1, nI_1]
    refine ih (i + 1) _ _ _ h11 (by omega) ⟨by rw [List.length_set, List.length_set, List.length_set, List.length_set]; exact t1, ?_, fun p p0 p1 => ?_, fun p p0 p1 => ?_, fun p hp => ?_, fun p p0 p1 => ?_⟩ ?_ ?_ (fun p hp => ?_) (sx_of st11)
    · rw [get, if_neg (by omega), if_neg (by omega), if_neg (by omega), if_neg (by omega)]; exact t2
    · rw [get, if_neg (by omega), if_neg (by omega), if_neg (by omega), if_neg (by omega)]; exact t3 p p0 p1
    · rw [get, if_neg (by omega), if_neg (by omega), if_neg (by omega), if_neg (by omega)]; exact t4 p p0 p1
    · rw [get, get, get, get, get]
      by_cases c : p = i
      · subst c
        refine ⟨?_, ⟨1 + v4, by omega, by omega, ?_, upd_s⟩, ⟨w1, hw1, ?_⟩, ⟨w2, hw2, ?_⟩, ?_⟩
        · rw [if_neg (by omega), if_neg (by omega), if_neg (by omega), if_pos rfl]; exact hk1
        · rw [if_neg (by omega), if_neg (by omega), if_pos (by omega)]
        · rw [if_neg (by omega), if_pos (by omega)]
        · rw [if_pos (by omega)]
        · rw [if_neg (by omega), if_neg (by omega), if_neg (by omega), if_neg (by omega)]; exact t6 _ (by omega) (by omega)
      · have q := t5 p (by omega)
        rw [if_neg (by omega), if_neg (by omega), if_neg (by omega), if_neg (by omega), if_neg (by omega), if_neg (by omega), if_neg (by omega), if_neg (by omega), if_neg (by omega), if_neg (by omega), if_neg (by omega), if_neg (by omega), if_neg (by omega), if_neg (by omega), if_neg (by omega), if_neg (by omega), if_neg (by omega), if_neg (by omega), if_neg (by omega), if_neg (by omega), upd_n (by omega)]
        exact q
    · rw [get, if_neg (by omega), if_neg (by omega), if_neg (by omega), if_neg (by omega)]; exact t6 p (by omega) p1
    · rw [upd_n (by omega), upd_n (by omega), upd_n (by omega)]; exact g0
    · rw [upd_n (by omega), upd_n (by omega), upd_n (by omega)]; exact g1
    · rw [upd_n (by omega)]; exact hv p hp
theorem d_171 (E : zEk r) (hE : zEnv r b L xs) (hL : L ≤ 260) (g2 : 2 ≤ g) (g7 : g ≤ 7) (m6 : m ≤ 6) (mg : m ≤ g) (m0 : 0 < m) {l : List Int32} (g0 : Ga 0 = nI g) (g1 : Ga 1 = nI m) (ti : ∀ Va, zTI l g 0 Va) : ∀ k i Va h, i + k = 6 → (∀ p, p < i → Va p = if p < m then nI p else -9) → zSx r C d M K W (va_up Tx 0 (some l)) Ga Va n h → zDkR r W Tx n (zev r i_L_deck 171 [some (.ref (r.1 + 0)), some (.ref b), some (.ref (r.1 + 49)), some (.ref (r.1 + 50)), some (.int x), some (.int 1), some (.int (nI i)), none] [] h) := by
  intro k
  induction k with
  | zero =>
    intro i Va h e hv sx
    have : i = 6 := by omega
    subst this
    rw [E_L_deck_171, if_neg (by decide)]
    exact d_214 E hE hL g2 g7 m6 mg m0 m 0 l Ga Va h (by omega) (ti Va) g0 g1 hv sx
  | succ k ih =>
    intro i Va h e hv sx
    obtain ⟨ta, tu, tl, st⟩ := sx
    have r1 : zaI r h (r.1 + 49) 1 = some (nI m) := (st_g (j := 1) (by decide) st).trans (by rw [g1])
    have o12 : (12 : Int32) + nI i = nI (12 + i) := nI_add 12 i
    have i6 : nI i < 6 := nI_lt (b := 6) (by omega) (by decide)
    rw [E_L_deck_171, if_pos i6, r1, Option.bind_some]
    by_cases c : i < m
    · obtain ⟨h2, s2, st2⟩ := st_sv (j := i) (by omega) (nI i) st
      obtain ⟨h3, s3, st3⟩ := st_sv (j := 12 + i) (by omega) 0 st2
      rw [if_pos (nI_lt c (by omega)), s2, Option.bind_some, o12, s3, Option.bind_some, nI_1]
      refine ih (i + 1) _ h3 (by omega) (fun p hp => ?_) (sx_of st3)
      rw [upd_n (by omega)]
      by_cases z : p = i
      · rw [z, upd_s, if_pos c]
      · rw [upd_n z]; exact hv p (by omega)
    · obtain ⟨h2, s2, st2⟩ := st_sv (j := i) (by omega) (-9) st
      obtain ⟨h3, s3, st3⟩ := st_sv (j := 12 + i) (by omega) 0 st2
      rw [if_neg (nI_nlt (by omega) (by omega)), s2, Option.bind_some, o12, s3, Option.bind_some, nI_1]
      refine ih (i + 1) _ h3 (by omega) (fun p hp => ?_) (sx_of st3)
      rw [upd_n (by omega)]
      by_cases z : p = i
      · rw [z, upd_s, if_neg c]
      · rw [upd_n z]; exact hv p (by omega)
theorem d_83 (E : zEk r) (hE : zEnv r b L xs) (hL : L ≤ 260) (g2 : 2 ≤ g) (g7 : g ≤ 7) (m6 : m ≤ 6) (mg : m ≤ g) (m0 : 0 < m) : ∀ k i l Ga h, i + k = g → Ga 0 = nI g → Ga 1 = nI m → l.length = 60 → l.getD 0 0 = 107 → (∀ p, 0 < p → p ≤ i → ¬ rLt zPL (l.getD p 0) 0 5 = -9) → (∀ p, i < p → p < 60 → l.getD p 0 = 32) → zSx r C d M K W (va_up Tx 0 (some l)) Ga Va n h → zDkR r W Tx n (zev r i_L_deck 83 [some (.ref (r.1 + 0)), some (.ref b), some (.ref (r.1 + 49)), some (.ref (r.1 + 50)), some (.int x), some (.int 1), some (.int (nI i)), none] [] h) := by
  intro k
  induction k with
  | zero =>
    intro i l Ga h e g0 g1 t1 t2 t3 t4 sx
    have : i = g := by omega
    subst this
    obtain ⟨ta, tu, tl, st⟩ := sx
    have r0 : zaI r h (r.1 + 49) 0 = some (nI i) := (st_g (j := 0) (by decide) st).trans (by rw [g0])
    rw [E_L_deck_83, r0, Option.bind_some, if_neg (nI_nlt (Nat.le_refl _) (by omega))]
    exact d_171 E hE hL g2 g7 m6 mg m0 g0 g1 (fun Va => ⟨t1, t2, t3, fun p p0 p1 => t4 p p0 (by omega), fun p hp => absurd hp (Nat.not_lt_zero _), fun p p0 p1 => t4 p (by omega) p1⟩) 6 0 Va h rfl (fun p hp => absurd hp (Nat.not_lt_zero _)) (sx_of st)
  | succ k ih =>
    intro i l Ga h e g0 g1 t1 t2 t3 t4 sx
    obtain ⟨ta, tu, tl, st⟩ := sx
    have r0 : zaI r h (r.1 + 49) 0 = some (nI g) := (st_g (j := 0) (by decide) st).trans (by rw [g0])
    have o2 : (2 : Int32) + nI i = nI (2 + i) := nI_add 2 i
    have o1 : (1 : Int32) + nI i = nI (1 + i) := nI_add 1 i
    have k1 : (32 : Int32) + 1000 = 1032 := by decide
    have fin : ∀ s0, zDkR r W Tx n (zev r i_L_deck 125 [some (.ref (r.1 + 0)), some (.ref b), some (.ref (r.1 + 49)), some (.ref (r.1 + 50)), some (.int x), some (.int 1), some (.int (nI i)), none] [.int s0, .int (2 + nI i), .ref (r.1 + 49)] h) := fun s0 => by
      obtain ⟨h2, s2, st2⟩ := st_sg (j := 2 + i) (by omega) s0 st
      have r2 := st_g (j := 2 + i) (by omega) st2
      rw [upd_s] at r2
      obtain ⟨v, ev, hv1, hv2⟩ := w_pl r h2 s0
      obtain ⟨h3, e3, st3⟩ := ck_put (j := 0) (i := 1 + i) (l := l) v (by decide) va_same (by omega) st2
      rw [up_up, hv2] at st3
      rw [nl0, t4 _ (by omega) (by omega)] at e3
      rw [E_L_deck_125, o2, s2, Option.bind_some, if_neg i01, r2, Option.bind_some, ev, zcI_some, if_pos (st_ob st2), o1, e3, zcI_some, if_pos k1, nI_1]
      refine ih (i + 1) _ _ h3 (by omega) ?_ ?_ (by rw [List.length_set]; exact t1) ?_ (fun p p0 p1 => ?_) (fun p p0 p1 => ?_) (sx_of st3)
      · rw [upd_n (by omega)]; exact g0
      · rw [upd_n (by omega)]; exact g1
      · rw [getD_setI (by omega), if_neg (by omega)]; exact t2
      · rw [getD_setI (by omega)]
        by_cases z : p = 1 + i
        · rw [if_pos z]; exact hv1
        · rw [if_neg z]; exact t3 p p0 (by omega)
      · rw [getD_setI (by omega), if_neg (by omega)]; exact t4 p (by omega) p1
    rw [E_L_deck_83, r0, Option.bind_some, if_pos (nI_lt (by omega) (by omega))]
    by_cases c : ((x >>> (((10 : Int32) + nI i) &&& 31)) &&& (1 : Int32)) = 0
    · rw [if_pos c]
      exact fin 0
    · obtain ⟨v, hv, ev⟩ := w_low r h (x >>> (((17 : Int32) + nI i) &&& 31)) (m := 5) (by decide) (by decide)
      rw [nl5] at ev
      rw [if_neg c, ev, zcI_some]
      exact fin _
theorem w_deck (E : zEk r) (hE : zEnv r b L xs) (hL : L ≤ 260) (sx : zSx r C d M K W Tx Ga Va n h) : zDkR r W Tx n (zev r i_L_deck 0 [some (.ref (r.1 + 0)), some (.ref b), some (.ref (r.1 + 49)), some (.ref (r.1 + 50)), none, none, none, none] [] h) := by
  obtain ⟨ta, tu, tl, st⟩ := sx
  obtain ⟨v1, ev⟩ := w_cell hE h (k := 0) (by omega) hL
  rw [nl0] at ev
  obtain ⟨a, ha, ea⟩ := w_low r h v1 (m := 6) (by decide) (by decide)
  have ea' : zev r i_L_low 0 [some (.int v1), some (.int (6 : Int32))] [] h = some (some (.int (nI a)), h) := ea
  obtain ⟨h2, s2, st2⟩ := st_sg (j := 0) (by omega) (nI (2 + a)) st
  rw [nl0] at s2
  have o2 : (2 : Int32) + nI a = nI (2 + a) := nI_add 2 a
  have r0 : zaI r h2 (r.1 + 49) 0 = some (nI (2 + a)) := (st_g (j := 0) (by decide) st2).trans (by rw [upd_s])
  have k1 : (32 : Int32) + 1000 = 1032 := by decide
  have fin : ∀ s0, s0 ≤ 6 → s0 ≤ 2 + a → 0 < s0 → zDkR r W Tx n (zev r i_L_deck 42 [some (.ref (r.1 + 0)), some (.ref b), some (.ref (r.1 + 49)), some (.ref (r.1 + 50)), some (.int v1), none, none, none] [.int (nI s0), .int (v1 >>> ((3 : Int32) &&& 31)), .int 1, .int 1, .ref (r.1 + 49)] h2) := fun s0 s1 s2' s3 => by
    obtain ⟨c, hc, ec⟩ := w_low r h2 (v1 >>> ((3 : Int32) &&& 31)) (m := s0) s3 (by omega)
    obtain ⟨h3, s3, st3⟩ := st_sg (j := 1) (by omega) (nI (1 + c)) st2
    rw [nl1] at s3
    have o1 : (1 : Int32) + nI c = nI (1 + c) := nI_add 1 c
    obtain ⟨h4, e4, st4⟩ := ck_text (j := 0) (k := 60) (by decide) (by decide) st3
    rw [nl0, nl60] at e4
    obtain ⟨h5, e5, st5⟩ := ck_put (j := 0) (i := 0) (l := List.replicate 60 32) 107 (by decide) va_same (by decide) st4
    rw [up_up, show (107 : Int32).toInt8.toInt32 = 107 by decide] at st5
    rw [nl0, getD_rep (by decide)] at e5
    have get : ∀ q, ((List.replicate 60 (32 : Int32)).set 0 107).getD q 0 = if q = 0 then 107 else (List.replicate 60 (32 : Int32)).getD q 0 := fun q => getD_setI (by decide) _ _
    rw [E_L_deck_42, ec, zcI_some, o1, s3, Option.bind_some, if_pos (st_ob st3), e4, zcI_some, if_pos rfl, if_pos (st_ob st4), e5, zcI_some, if_pos k1]
    refine d_83 E hE hL (g := 2 + a) (m := 1 + c) (by omega) (by omega) (by omega) (by omega) (by omega) (2 + a) 0 _ _ h5 (by omega) ?_ upd_s (by rw [List.length_set, List.length_replicate]) ?_ (fun p p0 p1 => absurd p0 (by omega)) (fun p p0 p1 => ?_) (sx_of st5)
    · rw [upd_n (by decide), upd_s]
    · rw [get, if_pos rfl]
    · rw [get, if_neg (by omega), getD_rep p1]
  rw [E_L_deck_0, ev, zcI_some, ea', zcI_some, o2, s2, Option.bind_some, r0, Option.bind_some]
  by_cases c : 2 + a < 6
  · have c' : nI (2 + a) < 6 := nI_lt (b := 6) c (by decide)
    rw [if_pos c', Option.bind_some]
    exact fin (2 + a) (by omega) (Nat.le_refl _) (by omega)
  · have c' : ¬ nI (2 + a) < 6 := nI_nlt (a := 2 + a) (b := 6) (by omega) (by omega)
    rw [if_neg c']
    exact fin 6 (by omega) (by omega) (by omega)
end DK
