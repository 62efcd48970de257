/-! BERTHS: moving -/
section MOVE
variable {r : zE} {x c : Nat} {C : zCs} {F : zBr → zH} {B : zBr}
theorem upd_s {f : zA} {k : Nat} {v : Int32} : upd f k v k = v := pk_us
theorem upd_n {f : zA} {k j : Nat} {v : Int32} (h : j ≠ k) : upd f k v j = f j := pk_un h
/-- a free hook, or none -/
def zFree (C : zCs) (G : zA) (h : Int32) : Prop := h = -9 ∨ ∃ j, j < C.1 ∧ h = nI j ∧ G j = -9
theorem cg_off {H G : zA} (k : zCk C) (g : zCG C H G) {m : Nat} (hm : m < C.2.1) {j : Nat} (hj : j < C.1) (e : H m = nI j) : zCG C (upd H m (-9)) (upd G j (-9)) := by
  have k1 := k.1
  have k2 := k.2.1
  have gj : G j = nI m := by
    rcases g.1 m hm with q | ⟨j2, a1, a2, a3⟩
    · exact absurd (e.symm.trans q) (nI_n9 (by omega))
    · have : j2 = j := (nI_eq (by omega) (by omega)).mp (a2.symm.trans e)
      subst this; exact a3
  refine ⟨fun q hq => ?_, fun i hi => ?_⟩
  · by_cases w : q = m
    · subst w; exact .inl upd_s
    · rw [upd_n w]
      rcases g.1 q hq with z | ⟨j2, a1, a2, a3⟩
      · exact .inl z
      · refine .inr ⟨j2, a1, a2, ?_⟩
        rw [upd_n (fun z => w ?_)]
        · exact a3
        · subst z; exact (nI_eq (by omega) (by omega)).mp (a3.symm.trans gj)
  · by_cases w : i = j
    · subst w; exact .inl upd_s
    · rw [upd_n w]
      rcases g.2 i hi with z | ⟨q, a1, a2, a3⟩
      · exact .inl z
      · refine .inr ⟨q, a1, a2, ?_⟩
        rw [upd_n (fun z => w ?_)]
        · exact a3
        · subst z; exact (nI_eq (by omega) (by omega)).mp (a3.symm.trans e)
theorem cg_on {H G : zA} (k : zCk C) (g : zCG C H G) {m : Nat} (hm : m < C.2.1) (e : H m = -9) {j : Nat} (hj : j < C.1) (ej : G j = -9) : zCG C (upd H m (nI j)) (upd G j (nI m)) := by
  have k1 := k.1
  have k2 := k.2.1
  refine ⟨fun q hq => ?_, fun i hi => ?_⟩
  · by_cases w : q = m
    · subst w; exact .inr ⟨j, hj, upd_s, upd_s⟩
    · rw [upd_n w]
      rcases g.1 q hq with z | ⟨j2, a1, a2, a3⟩
      · exact .inl z
      · refine .inr ⟨j2, a1, a2, ?_⟩
        rw [upd_n (fun z => ?_)]
        · exact a3
        · subst z; exact nI_n9 (by omega) (a3.symm.trans ej)
  · by_cases w : i = j
    · subst w; exact .inr ⟨m, hm, upd_s, upd_s⟩
    · rw [upd_n w]
      rcases g.2 i hi with z | ⟨q, a1, a2, a3⟩
      · exact .inl z
      · refine .inr ⟨q, a1, a2, ?_⟩
        rw [upd_n (fun z => ?_)]
        · exact a3
        · subst z; exact nI_n9 (by omega) (a3.symm.trans e)
theorem upd_twice {f : zA} {k : Nat} {v w : Int32} : upd (upd f k v) k w = upd f k w := by
  funext j
  by_cases h : j = k
  · subst h; rw [upd_s, upd_s]
  · rw [upd_n h, upd_n h, upd_n h]
theorem upd_self (f : zA) (k : Nat) : upd f k (f k) = f := by
  funext j
  by_cases h : j = k
  · subst h; rw [upd_s]
  · rw [upd_n h]
theorem b_move (b : zBx r x c C F) (k : zCk C) (g : zCG C B.1 B.2.1) {m : Nat} (hm : m < C.2.1) {h : Int32} (fr : zFree C B.2.1 h ∨ ¬ h = -9 ∧ h = B.1 m) : ∃ G', zev r i_X0_move 0 [some (.ref x), some (.int (nI m)), some (.int h)] [] (F B) = some (none, F (upd B.1 m h, G', B.2.2.1, B.2.2.2)) ∧ zCG C (upd B.1 m h) G' := by
  have k1 := k.1
  have k2 := k.2.1
  have h6 : m < 6 := by omega
  -- what the first half leaves
  have one : ∃ G1, zev r i_X0_move 0 [some (.ref x), some (.int (nI m)), some (.int h)] [] (F B) = zev r i_X0_move 29 [some (.ref x), some (.int (nI m)), some (.int h)] [] (F (B.1, G1, B.2.2.1, B.2.2.2)) ∧ zCG C (upd B.1 m (-9)) G1 ∧ (h = -9 ∨ ∃ j, j < C.1 ∧ h = nI j ∧ G1 j = -9) := by
    obtain ⟨v, o, g0, g1, g2, -, -, r1, r2, -, -, -, w2, -⟩ := b B
    rcases g.1 m hm with e | ⟨j, hj, e, ej⟩
    · refine ⟨B.2.1, ?_, ?_, ?_⟩
      · rw [E_X0_move_0]
        simp only [g0, g1, r1 m h6, Option.bind_some, v.1, if_true, e, cr_hook v, zcI_some, zhk_none]
      · rw [← e, upd_self]; exact g
      · rcases fr with q | ⟨q1, q2⟩
        · exact q
        · exact absurd (q2.trans e) q1
    · refine ⟨upd B.2.1 j (-9), ?_, cg_off k g hm hj e, ?_⟩
      · rw [E_X0_move_0]
        simp only [g0, g1, g2, r1 m h6, Option.bind_some, v.1, if_true, e, cr_hook v, zcI_some, zhk_in hj (show C.1 < 2 ^ 31 by omega), i01, if_false, w2 j _ (show j < 7 by omega)]
      · rcases fr with q | ⟨q1, q2⟩
        · rcases q with q | ⟨j2, a1, a2, a3⟩
          · exact .inl q
          · refine .inr ⟨j2, a1, a2, ?_⟩
            by_cases z : j2 = j
            · subst z; exact upd_s
            · rw [upd_n z]; exact a3
        · exact .inr ⟨j, hj, q2.trans e, upd_s⟩
  obtain ⟨G1, e1, cg, fr1⟩ := one
  obtain ⟨v, o, g0, g1, g2, -, -, -, -, -, -, w1, -⟩ := b (B.1, G1, B.2.2.1, B.2.2.2)
  obtain ⟨v', o', g0', g1', g2', -, -, -, -, -, -, -, w2', -⟩ := b (upd B.1 m h, G1, B.2.2.1, B.2.2.2)
  rcases fr1 with rfl | ⟨j, hj, rfl, ej⟩
  · refine ⟨G1, e1.trans ?_, cg⟩
    rw [E_X0_move_29]
    simp only [g1, w1 m _ h6, Option.bind_some, g0', v'.1, if_true, cr_hook v', zcI_some, zhk_none]
  · refine ⟨upd G1 j (nI m), e1.trans ?_, ?_⟩
    · rw [E_X0_move_29]
      simp only [g1, w1 m _ h6, Option.bind_some, g0', v'.1, if_true, cr_hook v', zcI_some, zhk_in hj (show C.1 < 2 ^ 31 by omega), i01, if_false, g2', w2' j _ (show j < 7 by omega)]
    · have := cg_on k cg hm upd_s hj ej
      rwa [upd_twice] at this
theorem cg_free {H G : zA} (k : zCk C) (g : zCG C H G) {j : Nat} (hj : j < C.1) (h : ∀ m, m < C.2.1 → ¬ H m = nI j) : G j = -9 := by
  rcases g.2 j hj with q | ⟨m, a1, a2, a3⟩
  · exact q
  · exact absurd a3 (h m a1)
theorem b_swap (b : zBx r x c C F) (k : zCk C) (g : zCG C B.1 B.2.1) {m q : Nat} (hm : m < C.2.1) (hq : q < C.2.1) (hn : m ≠ q) : ∃ G', zev r i_X0_swap 0 [some (.ref x), some (.int (nI m)), some (.int (nI q)), none, none] [] (F B) = some (none, F (upd (upd B.1 q (B.1 m)) m (B.1 q), G', B.2.2.1, B.2.2.2)) ∧ zCG C (upd (upd B.1 q (B.1 m)) m (B.1 q)) G' := by
  have k1 := k.1
  have k2 := k.2.1
  obtain ⟨v, o, g0, g1, g2, -, -, r1, -⟩ := b B
  obtain ⟨G1, e1, c1⟩ := b_move b k g hm (h := -9) (.inl (.inl rfl))
  obtain ⟨-, o1, -⟩ := b (upd B.1 m (-9), G1, B.2.2.1, B.2.2.2)
  have f2 : zFree C G1 (B.1 m) := by
    rcases g.1 m hm with z | ⟨j, a1, a2, a3⟩
    · exact .inl z
    · refine .inr ⟨j, a1, a2, cg_free k c1 a1 fun p hp => ?_⟩
      by_cases w : p = m
      · subst w; rw [upd_s]; exact fun z => nI_n9 (by omega) z.symm
      · rw [upd_n w]; exact fun z => w (zCG_inj g k hp hm a1 z a2)
  obtain ⟨G2, e2, c2⟩ := b_move b k (B := (upd B.1 m (-9), G1, B.2.2.1, B.2.2.2)) c1 hq (.inl f2)
  obtain ⟨-, o2, -⟩ := b (upd (upd B.1 m (-9)) q (B.1 m), G2, B.2.2.1, B.2.2.2)
  have f3 : zFree C G2 (B.1 q) := by
    rcases g.1 q hq with z | ⟨j, a1, a2, a3⟩
    · exact .inl z
    · refine .inr ⟨j, a1, a2, cg_free k c2 a1 fun p hp => ?_⟩
      dsimp only
      by_cases w : p = q
      · subst w
        rw [upd_s]
        exact fun z => hn (zCG_inj g k hm hq a1 z a2)
      · rw [upd_n w]
        by_cases w2 : p = m
        · subst w2; rw [upd_s]; exact fun z => nI_n9 (by omega) z.symm
        · rw [upd_n w2]; exact fun z => w (zCG_inj g k hp hq a1 z a2)
  obtain ⟨G3, e3, c3⟩ := b_move b k (B := (upd (upd B.1 m (-9)) q (B.1 m), G2, B.2.2.1, B.2.2.2)) c2 hm (.inl f3)
  have eq : upd (upd (upd B.1 m (-9)) q (B.1 m)) m (B.1 q) = upd (upd B.1 q (B.1 m)) m (B.1 q) := by
    funext p
    by_cases w : p = m
    · subst w; rw [upd_s, upd_s]
    · rw [upd_n w, upd_n w]
      by_cases w2 : p = q
      · subst w2; rw [upd_s, upd_s]
      · rw [upd_n w2, upd_n w2, upd_n w]
  refine ⟨G3, ?_, eq ▸ c3⟩
  rw [E_X0_swap_0]
  simp only [g1, r1 m (show m < 6 by omega), r1 q (show q < 6 by omega), Option.bind_some, o, o1, o2, if_true, e1, zcV_some]
  dsimp only at e2 e3
  rw [e2]
  simp only [zcV_some, o2, if_true]
  rw [e3, eq]
  rfl
/-- all down -/
theorem cg_down {H G : zA} (hH : ∀ m, m < C.2.1 → H m = -9) (hG : ∀ j, j < C.1 → G j = -9) : zCG C H G := ⟨fun m hm => .inl (hH m hm), fun j hj => .inl (hG j hj)⟩
theorem b_down (b : zBx r x c C F) (k : zCk C) : ∃ H' G', zev r i_X0_takeAllDown 0 [some (.ref x)] [] (F B) = some (none, F (H', G', B.2.2.1, B.2.2.2)) ∧ (∀ m, m < C.2.1 → H' m = -9) ∧ zCG C H' G' := by
  have k1 := k.1
  have k2 := k.2.1
  have e1 := z_fill r (n := 6) (fun f => F (f, B.2.1, B.2.2.1, B.2.2.2)) (a := x + 1) (by decide) (fun f => (b (f, B.2.1, B.2.2.1, B.2.2.2)).2.2.2.2.2.2.2.2.2.2.2.2.2.2.2.1) (fun f j y hj => (b (f, B.2.1, B.2.2.1, B.2.2.2)).2.2.2.2.2.2.2.2.2.2.2.1 j y hj) B.1 (-9)
  have e2 := z_fill r (n := 7) (fun f => F ((fun i => if i < 6 then -9 else B.1 i), f, B.2.2.1, B.2.2.2)) (a := x + 2) (by decide) (fun f => (b ((fun i => if i < 6 then -9 else B.1 i), f, B.2.2.1, B.2.2.2)).2.2.2.2.2.2.2.2.2.2.2.2.2.2.2.2) (fun f j y hj => (b ((fun i => if i < 6 then -9 else B.1 i), f, B.2.2.1, B.2.2.2)).2.2.2.2.2.2.2.2.2.2.2.2.1 j y hj) B.2.1 (-9)
  have hH : ∀ m, m < C.2.1 → (fun i => if i < 6 then (-9 : Int32) else B.1 i) m = -9 := fun m hm => if_pos (by omega)
  refine ⟨_, _, ?_, hH, cg_down hH (G := fun i => if i < 7 then (-9 : Int32) else B.2.1 i) fun j hj => if_pos (by omega)⟩
  obtain ⟨-, o, g0, g1, -⟩ := b B
  obtain ⟨-, o', g0', g1', g2', -⟩ := b ((fun i => if i < 6 then -9 else B.1 i), B.2.1, B.2.2.1, B.2.2.2)
  rw [E_X0_takeAllDown_0, g1]
  simp only [Option.bind_some]
  rw [show F B = F (B.1, B.2.1, B.2.2.1, B.2.2.2) from rfl, e1]
  simp only [zcV_some, g2', Option.bind_some]
  rw [e2]
  rfl
theorem b_first (b : zBx r x c C F) (k : zCk C) : ∃ H' G', zev r i_X0_hangByFirstPlan 0 [some (.ref x), none] [] (F B) = some (none, F (H', G', B.2.2.1, B.2.2.2)) ∧ (∀ m, m < C.2.1 → H' m = nI m) ∧ zCG C H' G' := by
  have k1 := k.1
  have k2 := k.2.1
  have k3 := k.2.2.1
  obtain ⟨H0, G0, e0, d0, c0⟩ := b_down b k (B := B)
  obtain ⟨-, o, -⟩ := b B
  rw [E_X0_hangByFirstPlan_0]
  simp only [o, if_true, e0, zcV_some]
  refine zloopS (fun j (s : zA × zA) => (∀ m, m < j → s.1 m = nI m) ∧ (∀ m, j ≤ m → m < C.2.1 → s.1 m = -9) ∧ zCG C s.1 s.2) (fun e => ∃ H' G', e = some (none, F (H', G', B.2.2.1, B.2.2.2)) ∧ (∀ m, m < C.2.1 → H' m = nI m) ∧ zCG C H' G') (fun j (s : zA × zA) => zev r i_X0_hangByFirstPlan 6 [some (.ref x), some (.int (nI j))] [] (F (s.1, s.2, B.2.2.1, B.2.2.2))) C.2.1 (fun j s hj p => .inr ?_) (fun s p => ?_) (H0, G0) ⟨fun m hm => absurd hm (Nat.not_lt_zero m), fun m _ hm => d0 m hm, c0⟩
  · obtain ⟨v, o, g0, g1, -⟩ := b (s.1, s.2, B.2.2.1, B.2.2.2)
    obtain ⟨G', e1, c1⟩ := b_move b k (B := (s.1, s.2, B.2.2.1, B.2.2.2)) p.2.2 hj (h := nI j) (.inl (.inr ⟨j, by omega, rfl, cg_free k p.2.2 (by omega) fun m hm => by
      by_cases w : m < j
      · rw [p.1 m w]
        exact fun z => absurd ((nI_eq (by omega) (by omega)).mp z) (by omega)
      · rw [p.2.1 m (by omega) hm]
        exact fun z => nI_n9 (by omega) z.symm⟩))
    refine ⟨(upd s.1 j (nI j), G'), ?_, fun m hm => ?_, fun m h1 h2 => ?_, c1⟩
    · refine (E_X0_hangByFirstPlan_6 ..).trans ?_
      simp only [g0, v.2.2.1, Option.bind_some, if_pos (nI_lt6 k hj), o, if_true, e1, zcV_some, nI_1]
    · by_cases w : m = j
      · subst w; exact upd_s
      · exact (upd_n w).trans (p.1 m (by omega))
    · exact (upd_n (by omega)).trans (p.2.1 m (by omega) h2)
  · obtain ⟨v, o, g0, g1, -⟩ := b (s.1, s.2, B.2.2.1, B.2.2.2)
    refine ⟨s.1, s.2, ?_, fun m hm => p.1 m hm, p.2.2⟩
    refine (E_X0_hangByFirstPlan_6 ..).trans ?_
    simp only [g0, v.2.2.1, Option.bind_some, if_neg (nI_nlt6 k)]
end MOVE
