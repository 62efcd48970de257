/-! THE NEXT PLAN of the class -/
/-- the first free hook from a on -/
def yNx (N : Nat) (U : List Nat) (a : Nat) : Option Nat := (List.range N).find? fun x => decide (a ≤ x) && !U.contains x
theorem yNx_lt (N : Nat) (U : List Nat) (a : Nat) : (yF N U).find? (fun x => decide (a < x)) = yNx N U (a + 1) := by
  unfold yF yNx
  rw [List.find?_filter]
  congr 1
  funext x
  by_cases h1 : a < x
  · by_cases h2 : x ∈ U <;> simp [h1, h2, Nat.succ_le_of_lt h1]
  · have : ¬ a + 1 ≤ x := h1
    by_cases h2 : x ∈ U <;> simp [h1, h2, this]
theorem yNx_hd (N : Nat) (U : List Nat) : (yF N U).head? = yNx N U 0 := by
  have e : ∀ l : List Nat, l.head? = l.find? (fun _ => true) := fun l => by cases l <;> simp
  rw [e]
  unfold yF yNx
  rw [List.find?_filter]
  congr 1
  funext x
  simp
theorem yNx_some {N : Nat} {U : List Nat} {a b : Nat} (h1 : a ≤ b) (h2 : b < N) (h3 : b ∉ U) (h4 : ∀ x, a ≤ x → x < b → x ∈ U) : yNx N U a = some b := by
  unfold yNx
  rw [List.find?_range_eq_some]
  refine ⟨by simp [h1, h3], by simpa using h2, fun j hj => ?_⟩
  by_cases q : a ≤ j
  · simp [h4 j q hj]
  · simp [q]
theorem yNx_none {N : Nat} {U : List Nat} {a : Nat} (h4 : ∀ x, a ≤ x → x < N → x ∈ U) : yNx N U a = none := by
  unfold yNx
  rw [List.find?_range_eq_none]
  intro j hj
  by_cases q : a ≤ j
  · simp [h4 j q hj]
  · simp [q]
section NEXT
variable {r : zE} {x c : Nat} {C : zCs} {F : zBr → zH} {L T : zA}
theorem b_moveOn (b : zBx r x c C F) (k : zCk C) {H G : zA} (g : zCG C H G) {m : Nat} (hm : m < C.2.1) {a0 : Nat} (ha : (H m = -9 ∧ a0 = 0) ∨ ∃ a, a < C.1 ∧ H m = nI a ∧ a0 = a + 1) {U : List Nat} (hU : ∀ y, a0 ≤ y → y < C.1 → (G y = -9 ↔ y ∉ U)) :
    ∃ G', zev r i_X0_moveOn 0 [some (.ref x), some (.int (nI m)), none] [] (F (H, G, L, T)) = some (some (.int (match yNx C.1 U a0 with | some _ => 1 | none => 0)), F (upd H m (match yNx C.1 U a0 with | some y => nI y | none => -9), G', L, T)) ∧ zCG C (upd H m (match yNx C.1 U a0 with | some y => nI y | none => -9)) G' := by
  have k1 := k.1
  have k2 := k.2.1
  obtain ⟨v, o, g0, g1, g2, -, -, r1, -⟩ := b (H, G, L, T)
  have st : zev r i_X0_moveOn 0 [some (.ref x), some (.int (nI m)), none] [] (F (H, G, L, T)) = zev r i_X0_moveOn 13 [some (.ref x), some (.int (nI m)), some (.int (nI a0))] [] (F (H, G, L, T)) := by
    rw [E_X0_moveOn_0]
    simp only [g1, r1 m (show m < 6 by omega), Option.bind_some]
    rcases ha with ⟨h1, h2⟩ | ⟨a, h1, h2, h3⟩
    · rw [h1, h2]; rfl
    · rw [h2, h3, if_pos (show (-1 : Int32) < nI a from Int32.lt_of_lt_of_le (by decide) (nI_pos' (by omega))), nI_1]
  rw [st]
  have a7 : a0 ≤ 7 := by
    rcases ha with ⟨-, h2⟩ | ⟨a, h1, -, h3⟩ <;> omega
  have key : ∀ q y, y + q = max a0 C.1 → a0 ≤ y → (∀ z, a0 ≤ z → z < y → z ∈ U) → ∃ G', zev r i_X0_moveOn 13 [some (.ref x), some (.int (nI m)), some (.int (nI y))] [] (F (H, G, L, T)) = some (some (.int (match yNx C.1 U a0 with | some _ => 1 | none => 0)), F (upd H m (match yNx C.1 U a0 with | some y => nI y | none => -9), G', L, T)) ∧ zCG C (upd H m (match yNx C.1 U a0 with | some y => nI y | none => -9)) G' := by
    intro q
    induction q with
    | zero =>
      intro y hy hay hz
      rw [yNx_none (fun z h1 h2 => hz z h1 (by omega))]
      obtain ⟨G', e1, c1⟩ := b_move b k (B := (H, G, L, T)) g hm (h := -9) (.inl (.inl rfl))
      refine ⟨G', ?_, c1⟩
      refine (E_X0_moveOn_13 ..).trans ?_
      simp only [g0, v.2.1, Option.bind_some, if_neg (nI_nlt (show C.1 ≤ y by omega) (show y < 2 ^ 31 by omega)), o, if_true, e1, zcV_some]
    | succ q ih =>
      intro y hy hay hz
      by_cases yn : y < C.1
      · by_cases fr : G y = -9
        · have hu : y ∉ U := (hU y hay yn).mp fr
          rw [yNx_some hay yn hu hz]
          obtain ⟨G', e1, c1⟩ := b_move b k (B := (H, G, L, T)) g hm (h := nI y) (.inl (.inr ⟨y, yn, rfl, fr⟩))
          refine ⟨G', ?_, c1⟩
          refine (E_X0_moveOn_13 ..).trans ?_
          simp only [g0, v.2.1, Option.bind_some, if_pos (nI_lt yn (show C.1 < 2 ^ 31 by omega)), o, if_true, b_free b k, zcI_some, zhk_in yn (show C.1 < 2 ^ 31 by omega), i01, if_false, nI_clamp (show y < 2 ^ 31 by omega), fr, e1, zcV_some]
        · have hu : y ∈ U := Decidable.byContradiction fun q => fr ((hU y hay yn).mpr q)
          obtain ⟨G', e1, c1⟩ := ih (y + 1) (by omega) (by omega) fun z h1 h2 => by
            by_cases w : z = y
            · subst w; exact hu
            · exact hz z h1 (by omega)
          refine ⟨G', ?_, c1⟩
          refine (E_X0_moveOn_13 ..).trans ?_
          simp only [g0, v.2.1, Option.bind_some, if_pos (nI_lt yn (show C.1 < 2 ^ 31 by omega)), o, if_true, b_free b k, zcI_some, zhk_in yn (show C.1 < 2 ^ 31 by omega), i01, if_false, nI_clamp (show y < 2 ^ 31 by omega), fr, nI_1]
          exact e1
      · exact absurd hy (by omega)
  exact key (max a0 C.1 - a0) a0 (by omega) (Nat.le_refl _) fun z h1 h2 => absurd h2 (by omega)
/-- men from j on hang by s; those ahead of them use U -/
def yHs (C : zCs) (H : zA) (j : Nat) (s : List Nat) : Prop := j + s.length = C.2.1 ∧ ∀ i, i < s.length → H (j + i) = nI (s.getD i 0)
def yUs (C : zCs) (H : zA) (j : Nat) (U : List Nat) : Prop := yU C.1 U ∧ ∀ a, a ∈ U ↔ a < C.1 ∧ ∃ m, m < j ∧ H m = nI a
theorem yUs_free {H G : zA} (k : zCk C) (g : zCG C H G) {j : Nat} {U : List Nat} (hj : j ≤ C.2.1) (hU : yUs C H j U) (hd : ∀ m, j ≤ m → m < C.2.1 → H m = -9) {y : Nat} (hy : y < C.1) : G y = -9 ↔ y ∉ U := by
  have k1 := k.1
  have k2 := k.2.1
  constructor
  · intro e q
    obtain ⟨-, m, h1, h2⟩ := (hU.2 y).mp q
    rcases g.1 m (by omega) with z | ⟨j2, a1, a2, a3⟩
    · exact nI_n9 (by omega) (h2.symm.trans z)
    · have : j2 = y := (nI_eq (by omega) (by omega)).mp (a2.symm.trans h2)
      subst this
      exact nI_n9 (show m < 2 ^ 31 by omega) (a3.symm.trans e)
  · intro q
    refine cg_free k g hy fun m hm e => q ((hU.2 y).mpr ⟨hy, m, ?_, e⟩)
    refine Nat.lt_of_not_le fun w => ?_
    exact nI_n9 (show y < 2 ^ 31 by omega) (e.symm.trans (hd m w hm))
theorem yUs_cons {H : zA} (k : zCk C) {j : Nat} {U : List Nat} {a : Nat} (hU : yUs C H j U) (ha : a < C.1) (hn : a ∉ U) {H' : zA} (h1 : ∀ m, m < j → H' m = H m) (h2 : H' j = nI a) : yUs C H' (j + 1) (a :: U) := by
  have k1 := k.1
  refine ⟨⟨List.nodup_cons.mpr ⟨hn, hU.1.1⟩, fun b hb => ?_⟩, fun b => ?_⟩
  · rcases List.mem_cons.mp hb with q | q
    · subst q; exact ha
    · exact hU.1.2 b q
  · rw [List.mem_cons]
    constructor
    · rintro (q | q)
      · subst q; exact ⟨ha, j, by omega, h2⟩
      · obtain ⟨q1, m, q2, q3⟩ := (hU.2 b).mp q
        exact ⟨q1, m, by omega, (h1 m q2).trans q3⟩
    · rintro ⟨q1, m, q2, q3⟩
      by_cases w : m = j
      · subst w
        exact .inl ((nI_eq (by omega) (by omega)).mp (q3.symm.trans h2))
      · exact .inr ((hU.2 b).mpr ⟨q1, m, by omega, (h1 m (by omega)).symm.trans q3⟩)
/-- the rest filled up -/
theorem b_fill (b : zBx r x c C F) (k : zCk C) (l1 : Int32) : ∀ (n j : Nat) (U : List Nat) (H G : zA), j + n = C.2.1 → zCG C H G → yUs C H j U → (∀ m, j ≤ m → m < C.2.1 → H m = -9) → U.length = j → ∃ H' G', zev r i_X0_hangByNextPlan 32 [some (.ref x), some (.int l1), some (.int (nI j))] [] (F (H, G, L, T)) = some (none, F (H', G', L, T)) ∧ zCG C H' G' ∧ (∀ m, m < j → H' m = H m) ∧ yHs C H' j (yFst C.1 U n) ∧ (yFst C.1 U n).length = n
  | 0, j, U, H, G, hj, g, hU, hd, hl => by
    obtain ⟨v, o, g0, -⟩ := b (H, G, L, T)
    refine ⟨H, G, ?_, g, fun _ _ => rfl, ⟨by simpa [yFst] using hj, fun i hi => absurd hi (by simp [yFst])⟩, rfl⟩
    refine (E_X0_hangByNextPlan_32 ..).trans ?_
    have : j = C.2.1 := by omega
    subst this
    simp only [g0, v.2.2.1, Option.bind_some, if_neg (nI_nlt6 k)]
  | n + 1, j, U, H, G, hj, g, hU, hd, hl => by
    have k1 := k.1
    have k2 := k.2.1
    have k3 := k.2.2.1
    obtain ⟨v, o, g0, -⟩ := b (H, G, L, T)
    have hm : j < C.2.1 := by omega
    obtain ⟨G', e1, c1⟩ := b_moveOn (L := L) (T := T) b k g hm (a0 := 0) (U := U) (.inl ⟨hd j (Nat.le_refl j) hm, rfl⟩) (fun y _ hy => yUs_free k g (by omega) hU hd hy)
    have hlen := yF_len hU.1
    cases e : yNx C.1 U 0 with
    | none =>
      rw [← yNx_hd, List.head?_eq_none_iff] at e
      rw [e] at hlen
      simp at hlen
      omega
    | some a =>
      rw [e] at e1 c1
      dsimp only at e1 c1
      have ha : a ∈ yF C.1 U := List.mem_of_mem_head? (by rw [yNx_hd, e]; rfl)
      obtain ⟨h1, h2⟩ := yF_mem.mp ha
      have hU' : yUs C (upd H j (nI a)) (j + 1) (a :: U) := yUs_cons k hU h1 h2 (fun m hm => upd_n (by omega)) upd_s
      obtain ⟨H2, G2, e2, c2, f2, s2, l2⟩ := b_fill b k l1 n (j + 1) (a :: U) (upd H j (nI a)) G' (by omega) c1 hU' (fun m h3 h4 => (upd_n (by omega)).trans (hd m (by omega) h4)) (by simp [hl])
      have ef : yFst C.1 U (n + 1) = a :: yFst C.1 (a :: U) n := by rw [yFst, yNx_hd, e]
      refine ⟨H2, G2, ?_, c2, fun m hm => (f2 m (by omega)).trans (upd_n (by omega)), ?_, ?_⟩
      · refine (E_X0_hangByNextPlan_32 ..).trans ?_
        simp only [g0, v.2.2.1, Option.bind_some, if_pos (nI_lt6 k hm), o, if_true, e1, zcI_some, nI_1]
        exact e2
      · rw [ef]
        refine ⟨by simp [l2]; omega, fun i hi => ?_⟩
        cases i with
        | zero => exact (f2 j (by omega)).trans upd_s
        | succ i =>
          have := s2.2 i (by simp at hi; omega)
          rw [show j + 1 + i = j + (i + 1) by omega] at this
          exact this
      · rw [ef]; simp [l2]
/-- what the search for the next plan does from man j on -/
theorem b_next (b : zBx r x c C F) (k : zCk C) : ∀ (s : List Nat) (j : Nat) (U : List Nat) (H G : zA), zCG C H G → yUs C H j U → U.length = j → yHs C H j s → (∀ a, a ∈ s → a < C.1) →
    match yS C.1 U s with
    | some s' => ∃ H' G', zev r i_X0_hangByNextPlan 10 [some (.ref x), some (.int (nI C.2.1 - 1)), none] [] (F (H, G, L, T)) = some (none, F (H', G', L, T)) ∧ zCG C H' G' ∧ (∀ m, m < j → H' m = H m) ∧ yHs C H' j s'
    | none => ∃ H' G', zev r i_X0_hangByNextPlan 10 [some (.ref x), some (.int (nI C.2.1 - 1)), none] [] (F (H, G, L, T)) = zev r i_X0_hangByNextPlan 10 [some (.ref x), some (.int (nI j - 1)), none] [] (F (H', G', L, T)) ∧ zCG C H' G' ∧ (∀ m, m < j → H' m = H m) ∧ ∀ m, j ≤ m → m < C.2.1 → H' m = -9
  | [], j, U, H, G, g, hU, hl, hs, hb => by
    have : j = C.2.1 := by have := hs.1; simpa using this
    subst this
    exact ⟨H, G, rfl, g, fun _ _ => rfl, fun m h1 h2 => absurd h2 (by omega)⟩
  | a :: s, j, U, H, G, g, hU, hl, hs, hb => by
    have k1 := k.1
    have k2 := k.2.1
    have k3 := k.2.2.1
    have hjl : j + (s.length + 1) = C.2.1 := by have := hs.1; simpa using this
    have hj : j < C.2.1 := by omega
    have hHj : H j = nI a := by have := hs.2 0 (by simp); simpa using this
    have ha : a < C.1 := hb a List.mem_cons_self
    have hn : a ∉ U := fun q => by
      obtain ⟨-, m, h1, h2⟩ := (hU.2 a).mp q
      have := zCG_inj g k (show m < C.2.1 by omega) hj ha h2 hHj
      omega
    have hU' : yUs C H (j + 1) (a :: U) := yUs_cons k hU ha hn (fun _ _ => rfl) hHj
    have ih := b_next b k s (j + 1) (a :: U) H G g hU' (by simp [hl]) ⟨by omega, fun i hi => by
      have := hs.2 (i + 1) (by simp; omega)
      rw [show j + 1 + i = j + (i + 1) by omega]
      exact this⟩ (fun b hb' => hb b (List.mem_cons_of_mem _ hb'))
    rw [yS]
    cases e : yS C.1 (a :: U) s with
    | some s' =>
      rw [e] at ih
      obtain ⟨H', G', e1, c1, f1, s1⟩ := ih
      refine ⟨H', G', e1, c1, fun m hm => f1 m (by omega), ⟨by have := s1.1; simp; omega, fun i hi => ?_⟩⟩
      cases i with
      | zero => exact (f1 j (by omega)).trans hHj
      | succ i =>
        have := s1.2 i (by simp at hi; omega)
        rw [show j + 1 + i = j + (i + 1) by omega] at this
        exact this
    | none =>
      rw [e] at ih
      obtain ⟨H1, G1, e1, c1, f1, d1⟩ := ih
      dsimp only
      rw [yNx_lt]
      have hH1 : H1 j = nI a := (f1 j (by omega)).trans hHj
      have hUs1 : yUs C H1 (j + 1) (a :: U) := by
        refine yUs_cons k ⟨hU.1, fun y => ?_⟩ ha hn (fun _ _ => rfl) hH1
        rw [hU.2 y]
        constructor
        · rintro ⟨q1, m, q2, q3⟩; exact ⟨q1, m, q2, (f1 m (by omega)).trans q3⟩
        · rintro ⟨q1, m, q2, q3⟩; exact ⟨q1, m, q2, (f1 m (by omega)).symm.trans q3⟩
      obtain ⟨v, o, g0, -⟩ := b (H1, G1, L, T)
      obtain ⟨G2, e2, c2⟩ := b_moveOn (L := L) (T := T) b k c1 hj (a0 := a + 1) (U := U) (.inr ⟨a, ha, hH1, rfl⟩) (fun y h1 h2 => by
        rw [yUs_free k c1 (by omega) hUs1 d1 h2]
        simp only [List.mem_cons, not_or]
        exact ⟨fun q => q.2, fun q => ⟨by omega, q⟩⟩)
      have hj1 : nI (j + 1) - 1 = nI j := nI_pred j
      cases e3 : yNx C.1 U (a + 1) with
      | none =>
        rw [e3] at e2 c2
        dsimp only at e2 c2
        refine ⟨upd H1 j (-9), G2, ?_, c2, fun m hm => (upd_n (by omega)).trans (f1 m (by omega)), fun m h1 h2 => ?_⟩
        · rw [e1, hj1]
          refine (E_X0_hangByNextPlan_10 ..).trans ?_
          simp only [if_neg (nI_pos (show j < 2 ^ 31 by omega)), o, if_true, e2, zcI_some, Int32.sub_eq_add_neg]
        · by_cases w : m = j
          · subst w; exact upd_s
          · exact (upd_n w).trans (d1 m (by omega) h2)
      | some y =>
        rw [e3] at e2 c2
        dsimp only at e2 c2
        have hy : y ∈ yF C.1 U := List.mem_of_find?_eq_some ((yNx_lt C.1 U a).trans e3)
        obtain ⟨y1, y2⟩ := yF_mem.mp hy
        have hU2 : yUs C (upd H1 j (nI y)) (j + 1) (y :: U) := by
          refine yUs_cons k hU y1 y2 (fun m hm => (upd_n (by omega)).trans (f1 m (by omega))) upd_s
        obtain ⟨H3, G3, e4, c4, f4, s4, l4⟩ := b_fill (L := L) (T := T) b k (nI j) s.length (j + 1) (y :: U) (upd H1 j (nI y)) G2 (by omega) c2 hU2 (fun m h3 h4 => (upd_n (by omega)).trans (d1 m (by omega) h4)) (by simp [hl])
        refine ⟨H3, G3, ?_, c4, fun m hm => (f4 m (by omega)).trans ((upd_n (by omega)).trans (f1 m (by omega))), ?_⟩
        · rw [e1, hj1]
          refine (E_X0_hangByNextPlan_10 ..).trans ?_
          simp only [if_neg (nI_pos (show j < 2 ^ 31 by omega)), o, if_true, e2, zcI_some, i01, if_false, nI_1]
          exact e4
        · refine ⟨by simp [l4]; omega, fun i hi => ?_⟩
          cases i with
          | zero => exact (f4 j (by omega)).trans upd_s
          | succ i =>
            have := s4.2 i (by simp [l4] at hi ⊢; omega)
            rw [show j + 1 + i = j + (i + 1) by omega] at this
            exact this
/-- all hang by a plan -/
def yHx (C : zCs) (H : zA) (p : List Nat) : Prop := p.length = C.2.1 ∧ ∀ i, i < C.2.1 → H i = nI (p.getD i 0)
theorem b_nextp (b : zBx r x c C F) (k : zCk C) {H G : zA} {p : List Nat} (g : zCG C H G) (hp : yHx C H p) (hb : ∀ a, a ∈ p → a < C.1) : ∃ H' G', zev r i_X0_hangByNextPlan 0 [some (.ref x), none, none] [] (F (H, G, L, T)) = some (none, F (H', G', L, T)) ∧ zCG C H' G' ∧ ∀ p', yS C.1 [] p = some p' → yHx C H' p' := by
  have k2 := k.2.1
  have k3 := k.2.2.1
  obtain ⟨v, o, g0, -⟩ := b (H, G, L, T)
  have hU0 : ∀ H : zA, yUs C H 0 [] := fun H => ⟨⟨List.nodup_nil, fun a ha => absurd ha (by simp)⟩, fun a => by simp⟩
  have nx := b_next (L := L) (T := T) b k p 0 [] H G g (hU0 H) rfl ⟨by rw [hp.1]; omega, fun i hi => by rw [Nat.zero_add]; exact hp.2 i (by rw [← hp.1]; exact hi)⟩ hb
  have st : zev r i_X0_hangByNextPlan 0 [some (.ref x), none, none] [] (F (H, G, L, T)) = zev r i_X0_hangByNextPlan 10 [some (.ref x), some (.int (nI C.2.1 - 1)), none] [] (F (H, G, L, T)) := by
    rw [E_X0_hangByNextPlan_0]
    simp only [g0, v.2.2.1, Option.bind_some]
  rw [st]
  cases e : yS C.1 [] p with
  | some s' =>
    rw [e] at nx
    obtain ⟨H', G', e1, c1, -, s1⟩ := nx
    refine ⟨H', G', e1, c1, fun p' hp' => ?_⟩
    cases hp'
    have l1 : s'.length = C.2.1 := by have := s1.1; omega
    exact ⟨l1, fun i hi => by have := s1.2 i (by omega); rwa [Nat.zero_add] at this⟩
  | none =>
    rw [e] at nx
    obtain ⟨H1, G1, e1, c1, -, d1⟩ := nx
    obtain ⟨v1, o1, g01, -⟩ := b (H1, G1, L, T)
    obtain ⟨H3, G3, e4, c4, -⟩ := b_fill (L := L) (T := T) b k (nI 0 - 1) C.2.1 0 [] H1 G1 (by omega) c1 (hU0 H1) (fun m _ h4 => d1 m (by omega) h4) rfl
    refine ⟨H3, G3, ?_, c4, fun p' hp' => absurd hp' (by simp)⟩
    rw [e1]
    refine (E_X0_hangByNextPlan_10 ..).trans ?_
    rw [if_pos (show nI 0 - 1 < 0 by decide)]
    exact e4
end NEXT
