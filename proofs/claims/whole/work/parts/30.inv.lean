/-! WHAT HOLDS BETWEEN TWO CALLS; constants; filling; the class's rows and texts -/
theorem nI_of0 (n : Nat) : Int32.ofNat n = nI n := id rfl
theorem va_same {α : Type} {f : Nat → α} {k : Nat} {v : α} : va_up f k v k = v := by simp [va_up]
theorem va_ne {α : Type} {f : Nat → α} {k j : Nat} {v : α} (h : j ≠ k) : va_up f k v j = f j := by simp [va_up, h]
theorem va_self {α : Type} (f : Nat → α) (k : Nat) : va_up f k (f k) = f := by
  funext j
  by_cases h : j = k
  · subst h; exact va_same
  · exact va_ne h
/-- a crew in the rest of the heap (or the first one) -/
def zCt (r : zE) (t : zH) (c : Nat) (C : zCs) : Prop := ∀ c0 c1 c2 I J Q N A U V X S, zCv r (r.1 + c) C (zmk r c0 c1 c2 I J Q N A U V X S t)
/-- a row, of the class and of the reference -/
def zRr (s : Int32) (f : zA) (s2 : Int32) (f2 : zA) (mx : Nat) : Prop := (s = -1 ∧ s2 = -1) ∨ ∃ n, n ≤ mx ∧ s = nI n ∧ s2 = nI n ∧ ∀ i, i < n → f i = f2 i
def zVI (C : zCs) (H : zA) : Prop := zVd C H ∧ ∀ m k, m < C.2.1 → k < C.2.1 → H m = H k → ¬ H m = -9 → m = k
/-- a log, of the class and of the reference -/
def zPast (C : zCs) (d : Nat) (P R : zA) : Prop := d ≤ 60 ∧ R 0 = nI d ∧ (∀ q m, q < 3 → m < C.2.1 → P (18 * d + (6 * q + m)) = R (1 + (6 * q + m))) ∧ (∀ j q m, j < d → q < 3 → m < C.2.1 → P (18 * j + (6 * q + m)) = R (19 + 18 * j + (6 * q + m))) ∧ ∀ j, j ≤ d → zVI C (fun m => P (18 * j + m)) ∧ zLk C (fun m => P (18 * j + (6 + m)))
def zTo (I : zA) (J : Nat → Int64) (Q : Nat → zA) (U : zA) (V : Nat → Int64) (X : Nat → zA) : Prop := I 0 = U 2 ∧ I 1 = U 3 ∧ J 0 = V 0 ∧ J 1 = V 1 ∧ ∀ f, 1 ≤ f → f < 6 → Q 0 f = X 9 f
def zRo (I : zA) (Q X : Nat → zA) : Prop := ∀ j, j < 6 → zRr (I (6 + j)) (Q (13 + j)) (X 5 j) (fun i => X 6 (40 * j + i)) 40
def zTe (I : zA) (Q X : Nat → zA) : Prop := ∀ j, j < 4 → zRr (I (12 + j)) (Q (19 + j)) (X 7 j) (fun i => X 8 (60 * j + i)) 60
def zNo (C : zCs) (N : zBr) (X : Nat → zA) : Prop := zCG C N.1 N.2.1 ∧ zLk C N.2.2.1 ∧ ∀ m, m < C.2.1 → N.1 m = X 0 (1 + m) ∧ N.2.2.1 m = X 0 (7 + m) ∧ N.2.2.2 m = X 0 (13 + m)
def zLg (C : zCs) (I : zA) (Q X : Nat → zA) : Prop := ∃ d, I 2 = nI d ∧ zPast C d (Q 9) (X 0)
def zKe (C : zCs) (I : zA) (Q X : Nat → zA) : Prop := ∀ k, k < 3 → (I (3 + k) = -1 ∧ X 0 (1099 * (1 + k)) = -1) ∨ ∃ d, I (3 + k) = nI d ∧ zPast C d (Q (10 + k)) (fun i => X 0 (1099 * (1 + k) + i))
def zIv (r : zE) (C : zCs) (c : Nat) (I : zA) (J : Nat → Int64) (Q : Nat → zA) (N : zBr) (U : zA) (V : Nat → Int64) (X : Nat → zA) (t : zH) : Prop :=
  zCk C ∧ zCt r t c C ∧ zMv C U X ∧ zTo I J Q U V X ∧ zRo I Q X ∧ zTe I Q X ∧ zNo C N X ∧ zLg C I Q X ∧ zKe C I Q X
/-- the state between two calls: n calls have been -/
def zSt (r : zE) (n : Nat) (h : zH) : Prop := ∃ C c c2 I J Q N A U V X S t, h = zmk r c c c2 I J Q N A U V X S t ∧ zIv r C c I J Q N U V X t ∧ t.length ≤ 7 * n ∧ zhs t ≤ 60 * n
/-- both answer the same -/
def zBoth (r : zE) (n n' : Nat) (e1 e2 : zH → Option zRes) (h : zH) : Prop := ∃ (v : Int32) (h1 h2 : zH), e1 h = some (some (.int v), h1) ∧ zob r h1 (r.1 + 49) 6 = true ∧ e2 h1 = some (some (.int v), h2) ∧ zSt r n' h2
def zBothL (r : zE) (n n' : Nat) (e1 e2 : zH → Option zRes) (h : zH) : Prop := ∃ (v : Int64) (h1 h2 : zH), e1 h = some (some (.long v), h1) ∧ zob r h1 (r.1 + 49) 6 = true ∧ e2 h1 = some (some (.long v), h2) ∧ zSt r n' h2
theorem zRo_c {I I' : zA} {Q Q' X X' : Nat → zA} (h : zRo I Q X) (hI : ∀ j, j < 6 → I' (6 + j) = I (6 + j)) (hQ : ∀ j, j < 6 → Q' (13 + j) = Q (13 + j)) (h5 : X' 5 = X 5) (h6 : X' 6 = X 6) : zRo I' Q' X' := fun j hj => by
  rw [hI j hj, hQ j hj, h5, h6]
  exact h j hj
theorem zTe_c {I I' : zA} {Q Q' X X' : Nat → zA} (h : zTe I Q X) (hI : ∀ j, j < 4 → I' (12 + j) = I (12 + j)) (hQ : ∀ j, j < 4 → Q' (19 + j) = Q (19 + j)) (h5 : X' 7 = X 7) (h6 : X' 8 = X 8) : zTe I' Q' X' := fun j hj => by
  rw [hI j hj, hQ j hj, h5, h6]
  exact h j hj
theorem zKe_c {C : zCs} {I I' : zA} {Q Q' X X' : Nat → zA} (h : zKe C I Q X) (hI : ∀ j, j < 3 → I' (3 + j) = I (3 + j)) (hQ : ∀ j, j < 3 → Q' (10 + j) = Q (10 + j)) (h0 : ∀ i, 1099 ≤ i → X' 0 i = X 0 i) : zKe C I' Q' X' := fun j hj => by
  rw [hI j hj, hQ j hj, h0 _ (by omega), show (fun i => X' 0 (1099 * (1 + j) + i)) = fun i => X 0 (1099 * (1 + j) + i) from funext fun i => h0 _ (by omega)]
  exact h j hj
section CONST
variable {r : zE} {c0 c1 c2 : Nat} {I : Nat → Int32} {J : Nat → Int64} {Q : Nat → Nat → Int32} {N A : zBr} {U : Nat → Int32} {V : Nat → Int64} {X : Nat → Nat → Int32} {S : zSs} {t : zH} {C : zCs} {c : Nat}
theorem k_when (r : zE) (h : zH) (i : Int32) : zev r i_X5_isWhen 0 [some (.int i)] [] h = some (some (.int (zhk 3 i)), h) := by
  rw [E_X5_isWhen_0]
  rw [← zbw_hk (by decide) i]
  unfold zbw
  rw [show nI 3 - 1 = (2 : Int32) by decide]
  repeat' split
  all_goals rfl
theorem k_kept (i : Int32) : zev r i_X5_isKeptPlace 0 [some (.ref (r.1 + 0)), some (.int i)] [] (zmk r c0 c1 c2 I J Q N A U V X S t) = some (some (.int (zhk 3 i)), zmk r c0 c1 c2 I J Q N A U V X S t) := by
  simp only [E_X5_isKeptPlace_0, mo_0, mg_0_0, mg_0_1, mg_0_2, mg_0_3, mg_0_4, mg_0_5, mg_0_6, mg_0_7, mg_0_8, mg_0_9, mg_0_10, mg_0_11, Option.bind_some, mn_21, nI_of0, zhk]
  by_cases h : i < 0
  · rw [if_pos h, if_pos h]
  · rw [if_neg h, if_neg h]
    by_cases h : i < nI 3
    · rw [if_pos h, if_pos h]
    · rw [if_neg h, if_neg h]
theorem k_tell (i : Int32) : zev r i_X5_tell 0 [some (.ref (r.1 + 0)), some (.int i)] [] (zmk r c0 c1 c2 I J Q N A U V X S t) = some (none, zmk r c0 c1 c2 (va_up I 0 i) J Q N A U V X S t) := by
  simp only [E_X5_tell_0, mp_0_7, Option.bind_some]
theorem k_found {f : Nat} (h1 : 1 ≤ f) (h6 : f < 6) : zev r i_X5_found 0 [some (.ref (r.1 + 0)), some (.int (nI f))] [] (zmk r c0 c1 c2 I J Q N A U V X S t) = some (some (.int (-3)), zmk r c0 c1 c2 (va_up I 1 (nI f)) J (va_up Q 0 (upd (Q 0) f (Q 0 f + 1))) N A U V X S t) := by
  have e1 : ¬ nI f < 1 := nI_nlt (b := 1) h1 (by omega)
  have e2 : ¬ (5 : Int32) < nI f := nI_nlt (a := 5) (by omega) (by decide)
  simp only [E_X5_found_0, if_neg e1, if_neg e2, mo_0, mg_0_0, mg_0_1, mg_0_2, mg_0_3, mg_0_4, mg_0_5, mg_0_6, mg_0_7, mg_0_8, mg_0_9, mg_0_10, mg_0_11, Option.bind_some, ma_22 h6, mw_22 h6, mp_0_10]
theorem m_find {f : Nat} (h1 : 1 ≤ f) (h6 : f < 6) : zev r i_X6_find 0 [some (.ref (r.1 + 49)), some (.int (nI f))] [] (zmk r c0 c1 c2 I J Q N A U V X S t) = some (some (.int (-3)), zmk r c0 c1 c2 I J Q N A (va_up U 3 (nI f)) V (va_up X 9 (upd (X 9) f (X 9 f + 1))) S t) := by
  simp only [E_X6_find_0, mp_49_14, mo_49, mg_49_0, mg_49_1, mg_49_2, mg_49_3, mg_49_4, mg_49_5, mg_49_6, mg_49_7, mg_49_8, mg_49_9, mg_49_10, mg_49_11, mg_49_12, mg_49_13, mg_49_14, mg_49_15, mg_49_16, mg_49_17, mg_49_18, mg_49_19, mg_49_20, mg_49_21, mg_49_22, mg_49_23, mg_49_24, mg_49_25, Option.bind_some, ma_59 h6, mw_59 h6]
theorem m_tell (i : Int32) : zev r i_X6_tell 0 [some (.ref (r.1 + 49)), some (.int i)] [] (zmk r c0 c1 c2 I J Q N A U V X S t) = some (some (.int 1), zmk r c0 c1 c2 I J Q N A (va_up U 2 i) V X S t) := by
  simp only [E_X6_tell_0, mp_49_11, Option.bind_some]
theorem k_rowAt (i : Int32) : zev r i_X5_rowAt 0 [some (.ref (r.1 + 0)), some (.int i)] [] (zmk r c0 c1 c2 I J Q N A U V X S t) = some (some (if zhk 6 i = 0 then .null else .ref (r.1 + 23 + 2 * i.toNatClampNeg)), zmk r c0 c1 c2 I J Q N A U V X S t) := by
  simp only [E_X5_rowAt_0, mo_0, mg_0_0, mg_0_1, mg_0_2, mg_0_3, mg_0_4, mg_0_5, mg_0_6, mg_0_7, mg_0_8, mg_0_9, mg_0_10, mg_0_11, Option.bind_some, mn_1, nI_of0]
  rcases pk_ix i (n := 6) (by decide) with h | h | ⟨j, hj, rfl⟩
  · rw [if_pos h, if_pos (show zhk 6 i = 0 by unfold zhk; rw [if_pos h])]
  · have h2 : ¬ i < nI 6 := Int32.not_lt.mpr h
    rw [if_neg h2, if_pos (show zhk 6 i = 0 by unfold zhk; rw [if_neg h2, ite_self])]
    rw [ite_self]
  · rw [if_neg (nI_pos (by omega)), if_pos (nI_lt hj (by decide)), zhk_in hj (by decide), if_neg i01, mq_1 hj, nI_clamp (by omega)]
    rfl
theorem k_textAt (i : Int32) : zev r i_X5_textAt 0 [some (.ref (r.1 + 0)), some (.int i)] [] (zmk r c0 c1 c2 I J Q N A U V X S t) = some (some (if zhk 4 i = 0 then .null else .ref (r.1 + 35 + 2 * i.toNatClampNeg)), zmk r c0 c1 c2 I J Q N A U V X S t) := by
  simp only [E_X5_textAt_0, mo_0, mg_0_0, mg_0_1, mg_0_2, mg_0_3, mg_0_4, mg_0_5, mg_0_6, mg_0_7, mg_0_8, mg_0_9, mg_0_10, mg_0_11, Option.bind_some, mn_2, nI_of0]
  rcases pk_ix i (n := 4) (by decide) with h | h | ⟨j, hj, rfl⟩
  · rw [if_pos h, if_pos (show zhk 4 i = 0 by unfold zhk; rw [if_pos h])]
  · have h2 : ¬ i < nI 4 := Int32.not_lt.mpr h
    rw [if_neg h2, if_pos (show zhk 4 i = 0 by unfold zhk; rw [if_neg h2, ite_self])]
    rw [ite_self]
  · rw [if_neg (nI_pos (by omega)), if_pos (nI_lt hj (by decide)), zhk_in hj (by decide), if_neg i01, mq_2 hj, nI_clamp (by omega)]
    rfl
theorem z_fill (r : zE) {n : Nat} (G : zA → zH) {a : Nat} (hn : n < 2 ^ 31) (hN : ∀ f, zaN r (G f) a = some n) (hS : ∀ f j y, j < n → zsI r (G f) a (nI j) y = some (G (upd f j y))) (f : zA) (v : Int32) : zev r i_J7_fill_53178 0 [some (.ref a), some (.int v), none, none] [] (G f) = some (none, G (fun i => if i < n then v else f i)) := by
  rw [E_J7_fill_53178_0, hN]
  refine (zloop (fun j (g : zA) => zev r i_J7_fill_53178 5 [some (.ref a), some (.int v), some (.int (nI j)), some (.int (nI n))] [] (G g)) (fun g => some (none, G g)) (fun g j => upd g j v) n (fun j g hj => ?_) (fun g => ?_) f).trans ?_
  · refine (E_J7_fill_53178_5 ..).trans ?_
    simp only [if_pos (nI_lt hj hn), hS g j v hj, Option.bind_some, nI_1]
  · refine (E_J7_fill_53178_5 ..).trans ?_
    simp only [if_neg (nI_nlt (Nat.le_refl n) hn)]
  · congr 3
    funext i
    have := zfd_inv (f := fun (g : zA) j => upd g j v) (fun j g => g i = if i < j then v else f i) (j := 0) (n := n) (s := f) (by simp) (fun s k _ _ h => by
      show upd s k v i = _
      unfold upd
      by_cases e : i = k
      · rw [if_pos e, if_pos (by omega)]
      · rw [if_neg e, h]
        by_cases e2 : i < k
        · rw [if_pos e2, if_pos (by omega)]
        · rw [if_neg e2, if_neg (by omega)])
    rw [this, Nat.zero_add]
end CONST
