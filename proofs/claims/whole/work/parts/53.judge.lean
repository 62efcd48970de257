/-! JUDGE: both alike -/
section JUDGE
variable {r : zE} {c0 c1 c2 : Nat} {I : Nat → Int32} {J : Nat → Int64} {Q : Nat → Nat → Int32} {N A : zBr} {U : Nat → Int32} {V : Nat → Int64} {X : Nat → Nat → Int32} {S : zSs} {t : zH} {C : zCs} {c n : Nat}
/-- a row is a plan -/
def yGd (C : zCs) (f : zA) : Prop := (∀ m, m < C.2.1 → ∃ a, a < C.1 ∧ f m = nI a) ∧ ∀ m k, m < C.2.1 → k < C.2.1 → f m = f k → m = k
theorem k_hangBy (k : zCk C) (hC : zCt r t c C) {j : Nat} (hj : j < 6) (hs : I (6 + j) = nI C.2.1) : (yGd C (Q (13 + j)) ∧ ∃ A' : zBr, zev r i_X0_hangBy 0 [some (.ref (r.1 + 14)), some (.ref (r.1 + 23 + 2 * j)), none, none] [] (zmk r c0 c1 (c) I J Q N A U V X S t) = some (some (.int 1), (zmk r c0 c1 (c) I J Q N (A') U V X S t)) ∧ zCG C A'.1 A'.2.1 ∧ (∀ m, m < C.2.1 → A'.1 m = Q (13 + j) m) ∧ A'.2.2.1 = A.2.2.1) ∨ (¬ yGd C (Q (13 + j)) ∧ ∃ A' : zBr, zev r i_X0_hangBy 0 [some (.ref (r.1 + 14)), some (.ref (r.1 + 23 + 2 * j)), none, none] [] (zmk r c0 c1 (c) I J Q N A U V X S t) = some (some (.int 0), (zmk r c0 c1 (c) I J Q N (A') U V X S t))) := by
  have k1 := k.1
  have k2 := k.2.1
  have ax := aBx (r := r) (c0 := c0) (c1 := c1) (I := I) (J := J) (Q := Q) (N := N) (U := U) (V := V) (X := X) (S := S) hC
  obtain ⟨H0, G0, e0, d0, cg0⟩ := b_down ax k (B := A)
  have st : zev r i_X0_hangBy 0 [some (.ref (r.1 + 14)), some (.ref (r.1 + 23 + 2 * j)), none, none] [] (zmk r c0 c1 (c) I J Q N A U V X S t) = zev r i_X0_hangBy 6 [some (.ref (r.1 + 14)), some (.ref (r.1 + 23 + 2 * j)), some (.int (nI 0)), none] [] (zmk r c0 c1 (c) I J Q N ((H0, G0, A.2.2.1, A.2.2.2)) U V X S t) := by
    simp only [E_X0_hangBy_0, mo_14, if_true, e0, zcV_some]
    rfl
  rw [st]
  refine zloopS (fun q (s : zA × zA) => zCG C s.1 s.2 ∧ (∀ m, m < q → s.1 m = Q (13 + j) m ∧ ∃ a, a < C.1 ∧ Q (13 + j) m = nI a) ∧ (∀ m, q ≤ m → m < C.2.1 → s.1 m = -9)) (fun e => (yGd C (Q (13 + j)) ∧ ∃ A' : zBr, e = some (some (.int 1), (zmk r c0 c1 (c) I J Q N (A') U V X S t)) ∧ zCG C A'.1 A'.2.1 ∧ (∀ m, m < C.2.1 → A'.1 m = Q (13 + j) m) ∧ A'.2.2.1 = A.2.2.1) ∨ (¬ yGd C (Q (13 + j)) ∧ ∃ A' : zBr, e = some (some (.int 0), (zmk r c0 c1 (c) I J Q N (A') U V X S t)))) (fun q (s : zA × zA) => zev r i_X0_hangBy 6 [some (.ref (r.1 + 14)), some (.ref (r.1 + 23 + 2 * j)), some (.int (nI q)), none] [] (zmk r c0 c1 (c) I J Q N ((s.1, s.2, A.2.2.1, A.2.2.2)) U V X S t)) C.2.1 (fun q s hq P => ?_) (fun s P => ?_) (H0, G0) ⟨cg0, fun m hm => absurd hm (Nat.not_lt_zero m), fun m _ hm => d0 m hm⟩
  · obtain ⟨P1, P2, P3⟩ := P
    have gt := wr_get (r := r) (c0 := c0) (c1 := c1) (c2 := c) (I := I) (J := J) (Q := Q) (N := N) (A := (s.1, s.2, A.2.2.1, A.2.2.2)) (U := U) (V := V) (X := X) (S := S) (t := t) hj hs (by omega) (nI q)
    rw [zhk_in hq (by omega), if_neg i01, nI_clamp (by omega)] at gt
    have fr := b_free ax k (B := (s.1, s.2, A.2.2.1, A.2.2.2)) (Q (13 + j) q)
    have bad : (if zhk C.1 (Q (13 + j) q) = 0 then (0 : Int32) else if s.2 (Q (13 + j) q).toNatClampNeg = -9 then 1 else 0) = 0 → zev r i_X0_hangBy 6 [some (.ref (r.1 + 14)), some (.ref (r.1 + 23 + 2 * j)), some (.int (nI q)), none] [] (zmk r c0 c1 (c) I J Q N ((s.1, s.2, A.2.2.1, A.2.2.2)) U V X S t) = some (some (.int 0), (zmk r c0 c1 (c) I J Q N ((s.1, s.2, A.2.2.1, A.2.2.2)) U V X S t)) := fun z => by
      dsimp only at fr
      rw [z] at fr
      refine (E_X0_hangBy_6 ..).trans ?_
      simp only [mg_14_0, (hC ..).2.2.1, Option.bind_some, if_pos (nI_lt6 k hq), mo_r hj, if_true, gt, zcI_some, mo_14, fr]
    rcases zhk_cases C.1 (by omega) (Q (13 + j) q) with e | ⟨e, a, ha, ea⟩
    · left; right
      refine ⟨fun g => ?_, _, bad (by rw [if_pos e])⟩
      obtain ⟨a, ha, ea⟩ := g.1 q hq
      rw [ea, zhk_in ha (by omega)] at e
      exact i01 e
    · by_cases w : s.2 a = -9
      · right
        obtain ⟨G', e1, cg1⟩ := b_move ax k (B := (s.1, s.2, A.2.2.1, A.2.2.2)) P1 hq (h := nI a) (.inl (.inr ⟨a, ha, rfl, w⟩))
        refine ⟨(upd s.1 q (nI a), G'), ?_, cg1, fun m hm => ?_, fun m h1 h2 => (upd_n (by omega)).trans (P3 m (by omega) h2)⟩
        · dsimp only at fr
          rw [e, if_neg i01, ea, nI_clamp (show a < 2 ^ 31 by omega), if_pos w] at fr
          rw [ea] at gt
          refine (E_X0_hangBy_6 ..).trans ?_
          simp only [mg_14_0, (hC ..).2.2.1, Option.bind_some, if_pos (nI_lt6 k hq), mo_r hj, if_true, gt, zcI_some, mo_14, fr, i01, if_false, e1, zcV_some, nI_1]
        · by_cases z : m = q
          · subst z; exact ⟨upd_s.trans ea.symm, a, ha, ea⟩
          · exact ⟨(upd_n z).trans (P2 m (by omega)).1, (P2 m (by omega)).2⟩
      · left; right
        refine ⟨fun g => ?_, _, bad (by rw [e, if_neg i01, ea, nI_clamp (by omega), if_neg w])⟩
        rcases P1.2 a ha with z | ⟨m, hm, z1, z2⟩
        · exact w z
        · by_cases hmq : m < q
          · have := g.2 m q hm hq ((P2 m hmq).1.symm.trans (z2.trans ea.symm))
            omega
          · exact nI_n9 (by omega) (z2.symm.trans (P3 m (by omega) hm))
  · obtain ⟨P1, P2, P3⟩ := P
    left
    refine ⟨⟨fun m hm => (P2 m hm).2, fun m q hm hq e => ?_⟩, (s.1, s.2, A.2.2.1, A.2.2.2), ?_, P1, fun m hm => (P2 m hm).1, rfl⟩
    · obtain ⟨a, ha, ea⟩ := (P2 m hm).2
      exact zCG_inj P1 k hm hq ha ((P2 m hm).1.trans ea) ((P2 q hq).1.trans (e.symm.trans ea))
    · refine (E_X0_hangBy_6 ..).trans ?_
      simp only [mg_14_0, (hC ..).2.2.1, Option.bind_some, if_neg (nI_nlt6 k)]
/-- a row's numbers as a list -/
def yLs (C : zCs) (f : zA) : List Nat := (List.range C.2.1).map fun m => (f m).toNatClampNeg
theorem yLs_nodup (k : zCk C) {f : zA} (h : ∀ m, m < C.2.1 → ∃ a, a < C.1 ∧ f m = nI a) : (yLs C f).Nodup ↔ ∀ m q, m < C.2.1 → q < C.2.1 → f m = f q → m = q := by
  have k1 := k.1
  have key : ∀ m q, m < C.2.1 → q < C.2.1 → ((f m).toNatClampNeg = (f q).toNatClampNeg ↔ f m = f q) := fun m q hm hq => by
    obtain ⟨a, ha, ea⟩ := h m hm
    obtain ⟨b, hb, eb⟩ := h q hq
    rw [ea, eb, nI_clamp (by omega), nI_clamp (by omega), nI_eq (by omega) (by omega)]
  unfold yLs List.Nodup
  rw [List.pairwise_map, List.pairwise_iff_getElem]
  constructor
  · intro p m q hm hq e
    rcases Nat.lt_trichotomy m q with w | w | w
    · have := p m q (by simpa using hm) (by simpa using hq) w
      simp only [List.getElem_range] at this
      exact absurd ((key m q hm hq).mpr e) this
    · exact w
    · have := p q m (by simpa using hq) (by simpa using hm) w
      simp only [List.getElem_range] at this
      exact absurd ((key q m hq hm).mpr e.symm) this
  · intro p i j hi hj hij
    simp only [List.getElem_range]
    simp at hi hj
    exact fun e => by have := p i j hi hj ((key i j hi hj).mp e); omega
theorem m_isplan (mv : zMv C U X) (k : zCk C) {j : Nat} (hj : j < 6) {f : zA} (hf : ∀ i, i < C.2.1 → f i = X 6 (40 * j + i)) : ∃ (v : Int32) (H' : zA), (∀ c0 c1 c2 I J Q N A V t, zev r i_X6_isPlan 0 [some (.ref (r.1 + 49)), some (.int (nI j)), none, none] [] (zmk r c0 c1 c2 I J Q N A U V X S t) = some (some (.int v), (zmk r c0 c1 c2 I J Q N A U V X ((H', S.2)) t))) ∧ (yGd C f ∧ v = 1 ∨ ¬ yGd C f ∧ v = 0) ∧ ∀ m, m < C.2.1 → H' m = f m := by
  have k1 := k.1
  have k2 := k.2.1
  let fold := zfd (fun (s : Int32 × zA) m => (if s.1 = 0 then 0 else if zhk C.1 (f m) = 0 then 0 else 1, upd s.2 m (f m))) 0 C.2.1 (1, S.1)
  have inv := zfd_inv (f := fun (s : Int32 × zA) m => (if s.1 = 0 then 0 else if zhk C.1 (f m) = 0 then 0 else 1, upd s.2 m (f m))) (fun q (s : Int32 × zA) => (s.1 = 1 ∧ (∀ m, m < q → ∃ a, a < C.1 ∧ f m = nI a) ∨ s.1 = 0 ∧ ¬ ∀ m, m < q → ∃ a, a < C.1 ∧ f m = nI a) ∧ ∀ m, m < q → s.2 m = f m) (j := 0) (n := C.2.1) (s := (1, S.1)) ⟨.inl ⟨rfl, fun m hm => absurd hm (Nat.not_lt_zero m)⟩, fun m hm => absurd hm (Nat.not_lt_zero m)⟩ (fun s q _ hq P => by
    refine ⟨?_, fun m hm => ?_⟩
    · dsimp only
      rcases P.1 with ⟨z, h⟩ | ⟨z, h⟩
      · rw [z, if_neg i01]
        rcases zhk_cases C.1 (by omega) (f q) with e | ⟨e, a, ha, ea⟩
        · rw [if_pos e]
          refine .inr ⟨rfl, fun h2 => ?_⟩
          obtain ⟨a, ha, ea⟩ := h2 q (by omega)
          rw [ea, zhk_in ha (by omega)] at e
          exact i01 e
        · rw [e, if_neg i01]
          refine .inl ⟨rfl, fun m hm => ?_⟩
          by_cases w : m = q
          · subst w; exact ⟨a, ha, ea⟩
          · exact h m (by omega)
      · rw [z, if_pos rfl]
        exact .inr ⟨rfl, fun h2 => h fun m hm => h2 m (by omega)⟩
    · by_cases w : m = q
      · subst w; exact upd_s
      · exact (upd_n w).trans (P.2 m (by omega)))
  rw [Nat.zero_add] at inv
  have run : ∀ c0 c1 c2 I J Q N A V t, zev r i_X6_isPlan 0 [some (.ref (r.1 + 49)), some (.int (nI j)), none, none] [] (zmk r c0 c1 c2 I J Q N A U V X S t) = (if fold.1 = 0 then some (some (.int 0), (zmk r c0 c1 c2 I J Q N A U V X ((fold.2, S.2)) t)) else zcI (zev r i_X6_areUnlike 0 [some (.ref (r.1 + 49)), none, none, none] [] (zmk r c0 c1 c2 I J Q N A U V X ((fold.2, S.2)) t)) fun v h2 => if v = 0 then some (some (.int 0), h2) else some (some (.int 1), h2)) := fun c0 c1 c2 I J Q N A V t => by
    rw [E_X6_isPlan_0]
    refine zloop (fun q (s : Int32 × zA) => zev r i_X6_isPlan 4 [some (.ref (r.1 + 49)), some (.int (nI j)), some (.int s.1), some (.int (nI q))] [] (zmk r c0 c1 c2 I J Q N A U V X ((s.2, S.2)) t)) (fun s => (if s.1 = 0 then some (some (.int 0), (zmk r c0 c1 c2 I J Q N A U V X ((s.2, S.2)) t)) else zcI (zev r i_X6_areUnlike 0 [some (.ref (r.1 + 49)), none, none, none] [] (zmk r c0 c1 c2 I J Q N A U V X ((s.2, S.2)) t)) fun v h2 => if v = 0 then some (some (.int 0), h2) else some (some (.int 1), h2))) (fun (s : Int32 × zA) m => (if s.1 = 0 then 0 else if zhk C.1 (f m) = 0 then 0 else 1, upd s.2 m (f m))) C.2.1 (fun q s hq => ?_) (fun s => ?_) (1, S.1)
    · refine (E_X6_isPlan_4 ..).trans ?_
      have e40 : (40 : Int32) * nI j + nI q = nI (40 * j + q) := by rw [show (40 : Int32) = nI 40 from rfl, pk_mul, nI_add]
      simp only [mo_49, mg_49_0, mg_49_1, mg_49_2, mg_49_3, mg_49_4, mg_49_5, mg_49_6, mg_49_7, mg_49_8, mg_49_9, mg_49_10, mg_49_11, mg_49_12, mg_49_13, mg_49_14, mg_49_15, mg_49_16, mg_49_17, mg_49_18, mg_49_19, mg_49_20, mg_49_21, mg_49_22, mg_49_23, mg_49_24, mg_49_25, Option.bind_some, if_pos (m_lt mv k hq), e40, ma_56 (show 40 * j + q < 240 by omega), if_true, m_hook mv k, zcI_some, E_X6_isPlan_39, mw_62 (show q < 6 by omega), nI_1, ← hf q hq]
      by_cases z : s.1 = 0
      · simp only [z, if_true]
      · simp only [z, if_false]
        by_cases z2 : zhk C.1 (f q) = 0
        · simp only [z2, if_true]
        · simp only [z2, if_false]
    · refine (E_X6_isPlan_4 ..).trans ?_
      simp only [mo_49, mg_49_0, mg_49_1, mg_49_2, mg_49_3, mg_49_4, mg_49_5, mg_49_6, mg_49_7, mg_49_8, mg_49_9, mg_49_10, mg_49_11, mg_49_12, mg_49_13, mg_49_14, mg_49_15, mg_49_16, mg_49_17, mg_49_18, mg_49_19, mg_49_20, mg_49_21, mg_49_22, mg_49_23, mg_49_24, mg_49_25, Option.bind_some, if_neg (m_nlt mv k), if_true]
  rcases inv.1 with ⟨z, h⟩ | ⟨z, h⟩
  · have hx : yHx C fold.2 (yLs C f) := ⟨by simp [yLs], fun i hi => by
      rw [show fold.2 i = f i from inv.2 i hi]
      obtain ⟨a, ha, ea⟩ := h i hi
      have : (yLs C f).getD i 0 = a := by
        unfold yLs
        rw [List.getD_eq_getElem?_getD, List.getElem?_map, List.getElem?_range hi]
        show (f i).toNatClampNeg = a
        rw [ea, nI_clamp (by omega)]
      rw [this, ea]⟩
    have hb : ∀ a, a ∈ yLs C f → a < C.1 := fun a ha => by
      unfold yLs at ha
      rw [List.mem_map] at ha
      obtain ⟨i, hi, e⟩ := ha
      obtain ⟨b, hb, eb⟩ := h i (by simpa using hi)
      rw [eb, nI_clamp (by omega)] at e
      omega
    have nd := yLs_nodup k h
    by_cases w : (yLs C f).Nodup
    · refine ⟨1, fold.2, fun c0 c1 c2 I J Q N A V t => ?_, .inl ⟨⟨h, nd.mp w⟩, rfl⟩, inv.2⟩
      rw [run, if_neg (show ¬ fold.1 = 0 by rw [show fold.1 = 1 from z]; exact i01), m_unl (S := (fold.2, S.2)) mv k hx hb, if_pos w, zcI_some, if_neg i01]
    · refine ⟨0, fold.2, fun c0 c1 c2 I J Q N A V t => ?_, .inr ⟨fun g => w (nd.mpr g.2), rfl⟩, inv.2⟩
      rw [run, if_neg (show ¬ fold.1 = 0 by rw [show fold.1 = 1 from z]; exact i01), m_unl (S := (fold.2, S.2)) mv k hx hb, if_neg w, zcI_some, if_pos rfl]
  · refine ⟨0, fold.2, fun c0 c1 c2 I J Q N A V t => ?_, .inr ⟨fun g => h g.1, rfl⟩, inv.2⟩
    rw [run, if_pos (show fold.1 = 0 from z)]
theorem lk_judge (E : zEk r) (a w : Int32) {h : zH} (st : zSt r n h) : zBoth r n n (zev r i_X5_judge 0 [some (.ref (r.1 + 0)), some (.int a), some (.int w), none] []) (zev r i_X6_judge 0 [some (.ref (r.1 + 49)), some (.int a), some (.int w)] []) h := by
  obtain ⟨C, c, c2, I, J, Q, N, A, U, V, X, S, t, rfl, iv, t1, t2⟩ := st
  obtain ⟨k, hC, mv, to, ro, te, no, lo, ke⟩ := id iv
  have k2 := k.2.1
  rcases zhk_cases 6 (by decide) a with e | ⟨e, j, hj, rfl⟩
  · refine both (v := (-1)) (h1 := (zmk r c c c2 I J Q N A U V X S t)) (h2 := (zmk r c c c2 I J Q N A U V X S t)) ?_ ?_ (st_mk iv t1 t2)
    · simp only [E_X5_judge_0, mo_0, mg_0_0, mg_0_1, mg_0_2, mg_0_3, mg_0_4, mg_0_5, mg_0_6, mg_0_7, mg_0_8, mg_0_9, mg_0_10, mg_0_11, if_true, k_rowAt, e, zcQ_null]
    · simp only [E_X6_judge_0, m_row, e, if_true, zcI_some]
  have cj := nI_clamp (show j < 2 ^ 31 by omega)
  rcases zhk_cases 3 (by decide) w with g | ⟨g, w, hw, rfl⟩
  · refine both (v := (-1)) (h1 := (zmk r c c c2 I J Q N A U V X S t)) (h2 := (zmk r c c c2 I J Q N A U V X S t)) ?_ ?_ (st_mk iv t1 t2)
    · simp only [E_X5_judge_0, mo_0, mg_0_0, mg_0_1, mg_0_2, mg_0_3, mg_0_4, mg_0_5, mg_0_6, mg_0_7, mg_0_8, mg_0_9, mg_0_10, mg_0_11, if_true, k_rowAt, e, i01, if_false, zcQ_ref, cj, k_when, g, zcI_some]
    · simp only [E_X6_judge_0, m_row, e, i01, if_false, zcI_some, m_when, g, if_true]
  by_cases m0 : nI C.2.1 = 0
  · refine both (v := (-4)) (h1 := (zmk r c c c2 I J Q N A U V X S t)) (h2 := (zmk r c c c2 I J Q N A U V X S t)) ?_ ?_ (st_mk iv t1 t2)
    · simp only [E_X5_judge_0, mo_0, mg_0_0, mg_0_1, mg_0_2, mg_0_3, mg_0_4, mg_0_5, mg_0_6, mg_0_7, mg_0_8, mg_0_9, mg_0_10, mg_0_11, if_true, k_rowAt, e, i01, if_false, zcQ_ref, cj, k_when, g, zcI_some, (hC ..).2.2.1, Option.bind_some, m0]
    · simp only [E_X6_judge_0, m_row, e, i01, if_false, zcI_some, m_when, g, mo_49, mg_49_0, mg_49_1, mg_49_2, mg_49_3, mg_49_4, mg_49_5, mg_49_6, mg_49_7, mg_49_8, mg_49_9, mg_49_10, mg_49_11, mg_49_12, mg_49_13, mg_49_14, mg_49_15, mg_49_16, mg_49_17, mg_49_18, mg_49_19, mg_49_20, mg_49_21, mg_49_22, mg_49_23, mg_49_24, mg_49_25, Option.bind_some, mv.2.1, m0, if_true]
  rcases ro j hj with ⟨s1, s2⟩ | ⟨m, hm, s1, s2, s3⟩
  · refine both (v := (-3)) (h1 := (zmk r c c c2 (va_up I 1 (nI 1)) J (va_up Q 0 (upd (Q 0) 1 (Q 0 1 + 1))) N A U V X S t)) (h2 := (zmk r c c c2 (va_up I 1 (nI 1)) J (va_up Q 0 (upd (Q 0) 1 (Q 0 1 + 1))) N A (va_up U 3 (nI 1)) V (va_up X 9 (upd (X 9) 1 (X 9 1 + 1))) S t)) ?_ ?_ (st_mk (iv_found 1 iv (by decide) (by decide)) t1 t2)
    · simp only [E_X5_judge_0, mo_0, mg_0_0, mg_0_1, mg_0_2, mg_0_3, mg_0_4, mg_0_5, mg_0_6, mg_0_7, mg_0_8, mg_0_9, mg_0_10, mg_0_11, if_true, k_rowAt, e, i01, if_false, zcQ_ref, cj, k_when, g, zcI_some, (hC ..).2.2.1, Option.bind_some, m0, mo_r hj, wr_miss hj, s1, k_f1]
    · simp only [E_X6_judge_0, m_row, e, i01, if_false, zcI_some, m_when, g, mo_49, mg_49_0, mg_49_1, mg_49_2, mg_49_3, mg_49_4, mg_49_5, mg_49_6, mg_49_7, mg_49_8, mg_49_9, mg_49_10, mg_49_11, mg_49_12, mg_49_13, mg_49_14, mg_49_15, mg_49_16, mg_49_17, mg_49_18, mg_49_19, mg_49_20, mg_49_21, mg_49_22, mg_49_23, mg_49_24, mg_49_25, Option.bind_some, mv.2.1, m0, if_true, ma_55 hj, s2, show (-1 : Int32) < 0 by decide, m_f1]
  have nm1 := nI_m1 (show m < 2 ^ 31 by omega)
  have npm := nI_pos (show m < 2 ^ 31 by omega)
  by_cases o : m = C.2.1
  · subst o
    have hb := k_hangBy (c0 := c) (c1 := c) (I := I) (J := J) (Q := Q) (N := N) (A := yCp N A) (U := U) (V := V) (X := X) (S := S) k hC hj s1
    obtain ⟨v, H', em, hv, hH⟩ := m_isplan (r := r) (S := zNw X S) mv k hj s3
    rcases hb with ⟨g1, A', ec, cg, hh, hl⟩ | ⟨g1, A', ec⟩
    · have v1 : v = 1 := (hv.resolve_right fun q => q.1 g1).2
      subst v1
      have ax := aBx (r := r) (c0 := c) (c1 := c) (I := I) (J := J) (Q := Q) (N := N) (U := U) (V := V) (X := X) (S := S) hC
      have lA : ∀ p, p < C.2.1 → A'.2.2.1 p = N.2.2.1 p := fun p hp => by rw [hl]; exact cp_l k N A p hp
      have ea := b_all ax k E (B := A') (lk_c lA no.2.1) cg (nI w)
      rw [sAll_c hh lA] at ea
      have vd : zVd C H' := vd_c hH fun m hm => .inr (g1.1 m hm)
      have eb := m_all (r := r) (c0 := c) (c1 := c) (c2 := c) (I := I) (J := J) (Q := Q) (N := N) (A := A') (V := V) (S := (H', (zNw X S).2)) (t := t) mv k vd (nI w)
      dsimp only at eb
      rw [sAll_c hH (now_l k no)] at eb
      refine both (v := (sAll C (Q (13 + j)) N.2.2.1 (nI w))) (h1 := (zmk r c c (c) I J Q N (A') U V X S t)) (h2 := (zmk r c c (c) I J Q N (A') U V X ((H', (zNw X S).2)) t)) ?_ ?_ (st_mk iv t1 t2)
      · simp only [E_X5_judge_0, mo_0, mg_0_0, mg_0_1, mg_0_2, mg_0_3, mg_0_4, mg_0_5, mg_0_6, mg_0_7, mg_0_8, mg_0_9, mg_0_10, mg_0_11, mo_14, if_true, k_rowAt, e, i01, if_false, zcQ_ref, cj, k_when, g, zcI_some, (hC ..).2.2.1, Option.bind_some, m0, mo_r hj, wr_miss hj, s1, nm1, mgs_r hj, a_copy, zcV_some, ec, ea]
      · simp only [E_X6_judge_0, m_row, e, i01, if_false, zcI_some, m_when, g, mo_49, mg_49_0, mg_49_1, mg_49_2, mg_49_3, mg_49_4, mg_49_5, mg_49_6, mg_49_7, mg_49_8, mg_49_9, mg_49_10, mg_49_11, mg_49_12, mg_49_13, mg_49_14, mg_49_15, mg_49_16, mg_49_17, mg_49_18, mg_49_19, mg_49_20, mg_49_21, mg_49_22, mg_49_23, mg_49_24, mg_49_25, Option.bind_some, mv.2.1, m0, if_true, ma_55 hj, s2, npm, m_now, zcV_some, em, eb]
    · have v0 : v = 0 := (hv.resolve_left fun q => g1 q.1).2
      subst v0
      refine both (v := (-3)) (h1 := (zmk r c c (c) (va_up I 1 (nI 3)) J (va_up Q 0 (upd (Q 0) 3 (Q 0 3 + 1))) N (A') U V X S t)) (h2 := (zmk r c c (c) (va_up I 1 (nI 3)) J (va_up Q 0 (upd (Q 0) 3 (Q 0 3 + 1))) N (A') (va_up U 3 (nI 3)) V (va_up X 9 (upd (X 9) 3 (X 9 3 + 1))) ((H', (zNw X S).2)) t)) ?_ ?_ (st_mk (iv_found 3 iv (by decide) (by decide)) t1 t2)
      · simp only [E_X5_judge_0, mo_0, mg_0_0, mg_0_1, mg_0_2, mg_0_3, mg_0_4, mg_0_5, mg_0_6, mg_0_7, mg_0_8, mg_0_9, mg_0_10, mg_0_11, mo_14, if_true, k_rowAt, e, i01, if_false, zcQ_ref, cj, k_when, g, zcI_some, (hC ..).2.2.1, Option.bind_some, m0, mo_r hj, wr_miss hj, s1, nm1, mgs_r hj, a_copy, zcV_some, ec, k_f3]
      · simp only [E_X6_judge_0, m_row, e, i01, if_false, zcI_some, m_when, g, mo_49, mg_49_0, mg_49_1, mg_49_2, mg_49_3, mg_49_4, mg_49_5, mg_49_6, mg_49_7, mg_49_8, mg_49_9, mg_49_10, mg_49_11, mg_49_12, mg_49_13, mg_49_14, mg_49_15, mg_49_16, mg_49_17, mg_49_18, mg_49_19, mg_49_20, mg_49_21, mg_49_22, mg_49_23, mg_49_24, mg_49_25, Option.bind_some, mv.2.1, m0, if_true, ma_55 hj, s2, npm, m_now, zcV_some, em, m_f3]
  · have ne : ¬ nI m = nI C.2.1 := fun q => o ((nI_eq (by omega) (by omega)).mp q)
    refine both (v := (-3)) (h1 := (zmk r c c c2 (va_up I 1 (nI 5)) J (va_up Q 0 (upd (Q 0) 5 (Q 0 5 + 1))) N A U V X S t)) (h2 := (zmk r c c c2 (va_up I 1 (nI 5)) J (va_up Q 0 (upd (Q 0) 5 (Q 0 5 + 1))) N A (va_up U 3 (nI 5)) V (va_up X 9 (upd (X 9) 5 (X 9 5 + 1))) S t)) ?_ ?_ (st_mk (iv_found 5 iv (by decide) (by decide)) t1 t2)
    · simp only [E_X5_judge_0, mo_0, mg_0_0, mg_0_1, mg_0_2, mg_0_3, mg_0_4, mg_0_5, mg_0_6, mg_0_7, mg_0_8, mg_0_9, mg_0_10, mg_0_11, if_true, k_rowAt, e, i01, if_false, zcQ_ref, cj, k_when, g, zcI_some, (hC ..).2.2.1, Option.bind_some, m0, mo_r hj, wr_miss hj, s1, nm1, mgs_r hj, ne, k_f5]
    · simp only [E_X6_judge_0, m_row, e, i01, if_false, zcI_some, m_when, g, mo_49, mg_49_0, mg_49_1, mg_49_2, mg_49_3, mg_49_4, mg_49_5, mg_49_6, mg_49_7, mg_49_8, mg_49_9, mg_49_10, mg_49_11, mg_49_12, mg_49_13, mg_49_14, mg_49_15, mg_49_16, mg_49_17, mg_49_18, mg_49_19, mg_49_20, mg_49_21, mg_49_22, mg_49_23, mg_49_24, mg_49_25, Option.bind_some, mv.2.1, m0, if_true, ma_55 hj, s2, npm, ne, m_f5]
end JUDGE
