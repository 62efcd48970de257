/-! THE NEXT PLAN of the reference -/
def ys7 (a b c d e f g : Bool) : Int32 := ySt (fun k => match k with | 0 => a | 1 => b | 2 => c | 3 => d | 4 => e | 5 => f | _ => g) 7
theorem ys7_eq (p : Nat → Bool) : ySt p 7 = ys7 (p 0) (p 1) (p 2) (p 3) (p 4) (p 5) (p 6) := rfl
theorem ys7_or : ∀ a b c d e f g : Bool, ∀ j, j < 7 → ys7 a b c d e f g ||| ((1 : Int32) <<< (nI j &&& 31)) = ys7 (a || decide (0 = j)) (b || decide (1 = j)) (c || decide (2 = j)) (d || decide (3 = j)) (e || decide (4 = j)) (f || decide (5 = j)) (g || decide (6 = j)) := by decide +kernel
theorem ys7_bit : ∀ a b c d e f g : Bool, ∀ h, h < 7 → ((ys7 a b c d e f g >>> (nI h &&& 31)) &&& 1) = if (match h with | 0 => a | 1 => b | 2 => c | 3 => d | 4 => e | 5 => f | _ => g) = true then 1 else 0 := by decide +kernel
theorem ySt7_or (p : Nat → Bool) {j : Nat} (h : j < 7) : ySt p 7 ||| ((1 : Int32) <<< (nI j &&& 31)) = ySt (fun k => p k || decide (k = j)) 7 := by rw [ys7_eq, ys7_eq, ys7_or _ _ _ _ _ _ _ j h]
theorem ySt7_bit (p : Nat → Bool) {h : Nat} (hh : h < 7) : ((ySt p 7 >>> (nI h &&& 31)) &&& 1) = if p h = true then 1 else 0 := by
  rw [ys7_eq, ys7_bit _ _ _ _ _ _ _ h hh]
  match h, hh with
  | 0, _ => rfl
  | 1, _ => rfl
  | 2, _ => rfl
  | 3, _ => rfl
  | 4, _ => rfl
  | 5, _ => rfl
  | 6, _ => rfl
  | h + 7, w => exact absurd w (by omega)
theorem dedup (x : List Nat) : ∃ d : List Nat, d.Nodup ∧ (∀ h, h ∈ d ↔ h ∈ x) ∧ d.length ≤ x.length ∧ (¬ x.Nodup → d.length < x.length) := by
  induction x with
  | nil => exact ⟨[], List.nodup_nil, fun _ => Iff.rfl, Nat.le_refl _, fun h => absurd List.nodup_nil h⟩
  | cons a x ih =>
    obtain ⟨d, h1, h2, h3, h4⟩ := ih
    by_cases ha : a ∈ x
    · exact ⟨d, h1, fun h => by
        rw [h2, List.mem_cons]
        exact ⟨.inr, fun q => by rcases q with q | q; exact q ▸ ha; exact q⟩, by simp; omega, fun _ => by simp; omega⟩
    · refine ⟨a :: d, List.nodup_cons.mpr ⟨fun q => ha ((h2 a).mp q), h1⟩, fun h => by rw [List.mem_cons, List.mem_cons, h2], by simp; omega, fun hn => ?_⟩
      have : ¬ x.Nodup := fun q => hn (List.nodup_cons.mpr ⟨ha, q⟩)
      simp
      exact h4 this
theorem part_len (p : Nat → Bool) : ∀ l : List Nat, (l.filter p).length + (l.filter fun x => !p x).length = l.length
  | [] => rfl
  | a :: l => by
    have := part_len p l
    by_cases h : p a = true
    · simp [h]; omega
    · simp [h]; omega
/-- how many hooks are in use -/
theorem use_len {N : Nat} {x : List Nat} (hx : ∀ a, a ∈ x → a < N) : ((List.range N).filter fun h => x.contains h).length = x.length ↔ x.Nodup := by
  have key : ∀ d : List Nat, yU N d → ((List.range N).filter fun h => d.contains h).length = d.length := fun d hd => by
    have h1 := yF_len hd
    have h2 := part_len (fun h => d.contains h) (List.range N)
    unfold yF at h1
    rw [List.length_range] at h2
    omega
  obtain ⟨d, h1, h2, h3, h4⟩ := dedup x
  have e : ((List.range N).filter fun h => x.contains h) = (List.range N).filter fun h => d.contains h := List.filter_congr fun h _ => by
    by_cases q : h ∈ x
    · simp [q, (h2 h).mpr q]
    · have : h ∉ d := fun w => q ((h2 h).mp w)
      simp [q, this]
  rw [e, key d ⟨h1, fun a ha => hx a ((h2 a).mp ha)⟩]
  constructor
  · intro q
    exact Decidable.byContradiction fun w => by have := h4 w; omega
  · intro q
    have := key x ⟨q, hx⟩
    rw [e, key d ⟨h1, fun a ha => hx a ((h2 a).mp ha)⟩] at this
    exact this
theorem yCt_nat (p : Nat → Bool) : ∀ n : Nat, yCt p n = nI ((List.range n).filter p).length
  | 0 => rfl
  | n + 1 => by
    unfold yCt
    rw [zfd_succ, Nat.zero_add, show zfd (fun (a : Int32) k => if p k then a + 1 else a) 0 n 0 = yCt p n from rfl, yCt_nat p n, List.range_succ, List.filter_append]
    by_cases h : p n = true
    · simp [h, nI_1]
    · simp [h]
section PLANM
variable {r : zE} {c0 c1 c2 : Nat} {I : Nat → Int32} {J : Nat → Int64} {Q : Nat → Nat → Int32} {N A : zBr} {U : Nat → Int32} {V : Nat → Int64} {X : Nat → Nat → Int32} {S : zSs} {t : zH} {C : zCs} {c n : Nat}
theorem take_succ' {x : List Nat} {j : Nat} (h : j < x.length) : x.take (j + 1) = x.take j ++ [x.getD j 0] := by
  rw [List.take_add_one, List.getD_eq_getElem?_getD, List.getElem?_eq_getElem h]
  rfl
theorem m_unl (mv : zMv C U X) (k : zCk C) {x : List Nat} (hx : yHx C S.1 x) (hb : ∀ a, a ∈ x → a < C.1) : zev r i_X6_areUnlike 0 [some (.ref (r.1 + 49)), none, none, none] [] (zmk r c0 c1 c2 I J Q N A U V X S t) = some (some (.int (if x.Nodup then 1 else 0)), zmk r c0 c1 c2 I J Q N A U V X S t) := by
  have k1 := k.1
  have k2 := k.2.1
  rw [E_X6_areUnlike_0]
  have l1 := zloopP (fun j (a : Int32) => a = ySt (fun h => (x.take j).contains h) 7) (fun j (a : Int32) => zev r i_X6_areUnlike 4 [some (.ref (r.1 + 49)), some (.int a), some (.int (nI j)), none] [] (zmk r c0 c1 c2 I J Q N A U V X S t)) (fun a => zev r i_X6_areUnlike 33 [some (.ref (r.1 + 49)), some (.int a), some (.int 0), some (.int 0)] [] (zmk r c0 c1 c2 I J Q N A U V X S t)) (fun (a : Int32) j => a ||| ((1 : Int32) <<< (S.1 j &&& 31))) C.2.1 (fun j a hj p => by
    refine ⟨(E_X6_areUnlike_4 ..).trans ?_, ?_⟩
    · simp only [mo_49, mg_49_0, mg_49_1, mg_49_2, mg_49_3, mg_49_4, mg_49_5, mg_49_6, mg_49_7, mg_49_8, mg_49_9, mg_49_10, mg_49_11, mg_49_12, mg_49_13, mg_49_14, mg_49_15, mg_49_16, mg_49_17, mg_49_18, mg_49_19, mg_49_20, mg_49_21, mg_49_22, mg_49_23, mg_49_24, mg_49_25, Option.bind_some, if_pos (m_lt mv k hj), ma_62 (show j < 6 by omega), nI_1]
    · have hm : x.getD j 0 ∈ x := by
        rw [List.getD_eq_getElem?_getD, List.getElem?_eq_getElem (by rw [hx.1]; exact hj)]
        exact List.getElem_mem _
      rw [p, hx.2 j hj, ySt7_or _ (show x.getD j 0 < 7 by have := hb _ hm; omega), take_succ' (by rw [hx.1]; exact hj)]
      congr 1
      funext h
      simp) (fun a p => by
    refine (E_X6_areUnlike_4 ..).trans ?_
    simp only [mo_49, mg_49_0, mg_49_1, mg_49_2, mg_49_3, mg_49_4, mg_49_5, mg_49_6, mg_49_7, mg_49_8, mg_49_9, mg_49_10, mg_49_11, mg_49_12, mg_49_13, mg_49_14, mg_49_15, mg_49_16, mg_49_17, mg_49_18, mg_49_19, mg_49_20, mg_49_21, mg_49_22, mg_49_23, mg_49_24, mg_49_25, Option.bind_some, if_neg (m_nlt mv k)]) 0 (by simp [ySt, zfd])
  obtain ⟨l1, l2⟩ := l1
  refine l1.trans ?_
  generalize zfd (fun (a : Int32) j => a ||| ((1 : Int32) <<< (S.1 j &&& 31))) 0 C.2.1 0 = seen at l2
  rw [List.take_of_length_le (by rw [hx.1]; exact Nat.le_refl _)] at l2
  subst l2
  refine (zloop (fun j (a : Int32) => zev r i_X6_areUnlike 33 [some (.ref (r.1 + 49)), some (.int (ySt (fun h => x.contains h) 7)), some (.int a), some (.int (nI j))] [] (zmk r c0 c1 c2 I J Q N A U V X S t)) (fun a => some (some (.int (if a = nI C.2.1 then 1 else 0)), zmk r c0 c1 c2 I J Q N A U V X S t)) (fun (a : Int32) j => if x.contains j then a + 1 else a) C.1 (fun j a hj => ?_) (fun a => ?_) 0).trans ?_
  · refine (E_X6_areUnlike_33 ..).trans ?_
    simp only [mo_49, mg_49_0, mg_49_1, mg_49_2, mg_49_3, mg_49_4, mg_49_5, mg_49_6, mg_49_7, mg_49_8, mg_49_9, mg_49_10, mg_49_11, mg_49_12, mg_49_13, mg_49_14, mg_49_15, mg_49_16, mg_49_17, mg_49_18, mg_49_19, mg_49_20, mg_49_21, mg_49_22, mg_49_23, mg_49_24, mg_49_25, Option.bind_some, mv.1, if_pos (nI_lt hj (show C.1 < 2 ^ 31 by omega)), ySt7_bit _ (show j < 7 by omega), nI_1]
    by_cases q : x.contains j = true
    · rw [if_pos q, if_pos q]
    · rw [if_neg q, if_neg q, Int32.add_zero]
  · refine (E_X6_areUnlike_33 ..).trans ?_
    simp only [mo_49, mg_49_0, mg_49_1, mg_49_2, mg_49_3, mg_49_4, mg_49_5, mg_49_6, mg_49_7, mg_49_8, mg_49_9, mg_49_10, mg_49_11, mg_49_12, mg_49_13, mg_49_14, mg_49_15, mg_49_16, mg_49_17, mg_49_18, mg_49_19, mg_49_20, mg_49_21, mg_49_22, mg_49_23, mg_49_24, mg_49_25, Option.bind_some, mv.1, mv.2.1, if_neg (nI_nlt (Nat.le_refl C.1) (show C.1 < 2 ^ 31 by omega))]
    split <;> rfl
  · have e : zfd (fun (a : Int32) j => if x.contains j then a + 1 else a) 0 C.1 0 = nI ((List.range C.1).filter fun h => x.contains h).length := yCt_nat _ _
    rw [e]
    have lf : ((List.range C.1).filter fun h => x.contains h).length ≤ 7 := Nat.le_trans (List.length_filter_le _ _) (by rw [List.length_range]; exact k1)
    have := use_len hb
    rw [hx.1] at this
    by_cases q : x.Nodup
    · rw [if_pos q, if_pos (by rw [this.mpr q])]
    · rw [if_neg q, if_neg (fun w => q (this.mp ((nI_eq (by omega) (by omega)).mp w)))]
/-- counting up from man j on -/
theorem m_count (mv : zMv C U X) (k : zCk C) : ∀ (s : List Nat) (j : Nat) (H : zA), yHs C H j s → (∀ a, a ∈ s → a < C.1) →
    match yT C.1 s with
    | some s' => ∃ H', zev r i_X6_nextPlan 13 [some (.ref (r.1 + 49)), some (.int 0), some (.int (nI C.2.1 - 1))] [] (zmk r c0 c1 c2 I J Q N A U V X ((H, S.2)) t) = zcI (zev r i_X6_areUnlike 0 [some (.ref (r.1 + 49)), none, none, none] [] (zmk r c0 c1 c2 I J Q N A U V X ((H', S.2)) t)) (fun v h => zev r i_X6_nextPlan 2 [some (.ref (r.1 + 49)), some (.int v), none] [] h) ∧ (∀ m, m < j → H' m = H m) ∧ yHs C H' j s'
    | none => ∃ H', zev r i_X6_nextPlan 13 [some (.ref (r.1 + 49)), some (.int 0), some (.int (nI C.2.1 - 1))] [] (zmk r c0 c1 c2 I J Q N A U V X ((H, S.2)) t) = zev r i_X6_nextPlan 13 [some (.ref (r.1 + 49)), some (.int 0), some (.int (nI j - 1))] [] (zmk r c0 c1 c2 I J Q N A U V X ((H', S.2)) t) ∧ (∀ m, m < j → H' m = H m) ∧ yHs C H' j (List.replicate s.length 0)
  | [], j, H, hs, hb => by
    have : j = C.2.1 := by have := hs.1; simpa using this
    subst this
    exact ⟨H, rfl, fun _ _ => rfl, by simp, fun i hi => absurd hi (by simp)⟩
  | a :: s, j, H, hs, hb => by
    have k1 := k.1
    have k2 := k.2.1
    have hjl : j + (s.length + 1) = C.2.1 := by have := hs.1; simpa using this
    have hj : j < C.2.1 := by omega
    have j6 : j < 6 := by omega
    have hHj : H j = nI a := by have := hs.2 0 (by simp); simpa using this
    have ha : a < C.1 := hb a List.mem_cons_self
    have ih := m_count mv k s (j + 1) H ⟨by omega, fun i hi => by
      have := hs.2 (i + 1) (by simp; omega)
      rw [show j + 1 + i = j + (i + 1) by omega]
      exact this⟩ (fun b hb' => hb b (List.mem_cons_of_mem _ hb'))
    rw [yT]
    cases e : yT C.1 s with
    | some s' =>
      rw [e] at ih
      obtain ⟨H', e1, f1, s1⟩ := ih
      refine ⟨H', e1, fun m hm => f1 m (by omega), by have := s1.1; simp; omega, fun i hi => ?_⟩
      cases i with
      | zero => exact (f1 j (by omega)).trans hHj
      | succ i =>
        have := s1.2 i (by simp at hi; omega)
        rw [show j + 1 + i = j + (i + 1) by omega] at this
        exact this
    | none =>
      rw [e] at ih
      obtain ⟨H1, e1, f1, s1⟩ := ih
      dsimp only
      have hH1 : H1 j = nI a := (f1 j (by omega)).trans hHj
      have hj1 : nI (j + 1) - 1 = nI j := nI_pred j
      have hN : U 0 - 1 = nI (C.1 - 1) := by rw [mv.1]; exact pk_sub (a := C.1) (b := 1) (by omega)
      by_cases q : a + 1 < C.1
      · rw [if_pos q]
        have ne : ¬ nI a = nI (C.1 - 1) := fun w => by have := (nI_eq (show a < 2 ^ 31 by omega) (show C.1 - 1 < 2 ^ 31 by omega)).mp w; omega
        refine ⟨upd H1 j (nI (a + 1)), ?_, fun m hm => (upd_n (by omega)).trans (f1 m (by omega)), by simp; omega, fun i hi => ?_⟩
        · rw [e1, hj1]
          refine (E_X6_nextPlan_13 ..).trans ?_
          simp only [if_neg (nI_pos (show j < 2 ^ 31 by omega)), mo_49, mg_49_0, mg_49_1, mg_49_2, mg_49_3, mg_49_4, mg_49_5, mg_49_6, mg_49_7, mg_49_8, mg_49_9, mg_49_10, mg_49_11, mg_49_12, mg_49_13, mg_49_14, mg_49_15, mg_49_16, mg_49_17, mg_49_18, mg_49_19, mg_49_20, mg_49_21, mg_49_22, mg_49_23, mg_49_24, mg_49_25, Option.bind_some, ma_62 j6, hH1, hN, if_neg ne]
          refine (E_X6_nextPlan_45 ..).trans ?_
          simp only [if_neg (nI_pos (show j < 2 ^ 31 by omega)), mo_49, mg_49_0, mg_49_1, mg_49_2, mg_49_3, mg_49_4, mg_49_5, mg_49_6, mg_49_7, mg_49_8, mg_49_9, mg_49_10, mg_49_11, mg_49_12, mg_49_13, mg_49_14, mg_49_15, mg_49_16, mg_49_17, mg_49_18, mg_49_19, mg_49_20, mg_49_21, mg_49_22, mg_49_23, mg_49_24, mg_49_25, Option.bind_some, ma_62 j6, mw_62 j6, hH1, nI_1, if_true]
        · cases i with
          | zero => exact upd_s
          | succ i =>
            have := s1.2 i (by simp at hi ⊢; omega)
            rw [show j + 1 + i = j + (i + 1) by omega] at this
            exact (upd_n (by omega)).trans this
      · rw [if_neg q]
        have eq : nI a = nI (C.1 - 1) := by rw [show a = C.1 - 1 by omega]
        refine ⟨upd H1 j 0, ?_, fun m hm => (upd_n (by omega)).trans (f1 m (by omega)), by simp; omega, fun i hi => ?_⟩
        · rw [e1, hj1, show nI j - 1 = nI j + -1 from Int32.sub_eq_add_neg _ _]
          refine (E_X6_nextPlan_13 ..).trans ?_
          simp only [if_neg (nI_pos (show j < 2 ^ 31 by omega)), mo_49, mg_49_0, mg_49_1, mg_49_2, mg_49_3, mg_49_4, mg_49_5, mg_49_6, mg_49_7, mg_49_8, mg_49_9, mg_49_10, mg_49_11, mg_49_12, mg_49_13, mg_49_14, mg_49_15, mg_49_16, mg_49_17, mg_49_18, mg_49_19, mg_49_20, mg_49_21, mg_49_22, mg_49_23, mg_49_24, mg_49_25, Option.bind_some, ma_62 j6, hH1, hN, if_pos eq, mw_62 j6]
        · cases i with
          | zero => exact upd_s
          | succ i =>
            have := s1.2 i (by simp at hi ⊢; omega)
            rw [show j + 1 + i = j + (i + 1) by omega] at this
            exact (upd_n (by omega)).trans this
theorem yHx_s {H : zA} {p : List Nat} : yHx C H p ↔ yHs C H 0 p := by
  unfold yHx yHs
  constructor
  · rintro ⟨h1, h2⟩
    exact ⟨by omega, fun i hi => by rw [Nat.zero_add]; exact h2 i (by omega)⟩
  · rintro ⟨h1, h2⟩
    exact ⟨by omega, fun i hi => by have := h2 i (by omega); rwa [Nat.zero_add] at this⟩
/-- on to the next plan that has none twice, of those that follow -/
theorem m_nextp (mv : zMv C U X) (k : zCk C) : ∀ (l : List (List Nat)) (p : List Nat) (H : zA), yRn (yT C.1) none (p :: l) → (∀ q, q ∈ p :: l → ∀ a, a ∈ q → a < C.1) → yHx C H p →
    ∃ H', zev r i_X6_nextPlan 2 [some (.ref (r.1 + 49)), some (.int 0), none] [] (zmk r c0 c1 c2 I J Q N A U V X ((H, S.2)) t) = some (some (.int (match l.find? (fun q => decide q.Nodup) with | some _ => 1 | none => 0)), (zmk r c0 c1 c2 I J Q N A U V X ((H', S.2)) t)) ∧ ∀ q, l.find? (fun q => decide q.Nodup) = some q → yHx C H' q
  | [], p, H, hr, hb, hp => by
    have mc := m_count (r := r) (c0 := c0) (c1 := c1) (c2 := c2) (I := I) (J := J) (Q := Q) (N := N) (A := A) (V := V) (S := S) (t := t) mv k p 0 H (yHx_s.mp hp) (hb p List.mem_cons_self)
    rw [show yT C.1 p = none from hr.1] at mc
    obtain ⟨H', e1, -⟩ := mc
    refine ⟨H', ?_, fun q hq => absurd hq (by simp)⟩
    refine (E_X6_nextPlan_2 ..).trans ?_
    simp only [if_true, mo_49, mg_49_0, mg_49_1, mg_49_2, mg_49_3, mg_49_4, mg_49_5, mg_49_6, mg_49_7, mg_49_8, mg_49_9, mg_49_10, mg_49_11, mg_49_12, mg_49_13, mg_49_14, mg_49_15, mg_49_16, mg_49_17, mg_49_18, mg_49_19, mg_49_20, mg_49_21, mg_49_22, mg_49_23, mg_49_24, mg_49_25, Option.bind_some, mv.2.1]
    rw [e1]
    refine (E_X6_nextPlan_13 ..).trans ?_
    rw [if_pos (show nI 0 - 1 < 0 by decide)]
    refine (E_X6_nextPlan_45 ..).trans ?_
    rw [if_pos (show nI 0 - 1 < 0 by decide)]
    rfl
  | y :: l, p, H, hr, hb, hp => by
    have mc := m_count (r := r) (c0 := c0) (c1 := c1) (c2 := c2) (I := I) (J := J) (Q := Q) (N := N) (A := A) (V := V) (S := S) (t := t) mv k p 0 H (yHx_s.mp hp) (hb p List.mem_cons_self)
    rw [show yT C.1 p = some y from hr.1] at mc
    obtain ⟨H1, e1, -, s1⟩ := mc
    have hy : yHx C H1 y := yHx_s.mpr s1
    have un := m_unl (r := r) (c0 := c0) (c1 := c1) (c2 := c2) (I := I) (J := J) (Q := Q) (N := N) (A := A) (V := V) (S := (H1, S.2)) (t := t) mv k hy (hb y (by simp))
    have st : zev r i_X6_nextPlan 2 [some (.ref (r.1 + 49)), some (.int 0), none] [] (zmk r c0 c1 c2 I J Q N A U V X ((H, S.2)) t) = zev r i_X6_nextPlan 2 [some (.ref (r.1 + 49)), some (.int (if y.Nodup then 1 else 0)), none] [] (zmk r c0 c1 c2 I J Q N A U V X ((H1, S.2)) t) := by
      refine (E_X6_nextPlan_2 ..).trans ?_
      simp only [if_true, mo_49, mg_49_0, mg_49_1, mg_49_2, mg_49_3, mg_49_4, mg_49_5, mg_49_6, mg_49_7, mg_49_8, mg_49_9, mg_49_10, mg_49_11, mg_49_12, mg_49_13, mg_49_14, mg_49_15, mg_49_16, mg_49_17, mg_49_18, mg_49_19, mg_49_20, mg_49_21, mg_49_22, mg_49_23, mg_49_24, mg_49_25, Option.bind_some, mv.2.1]
      rw [e1, un]
      rfl
    rw [st, List.find?_cons]
    by_cases q : y.Nodup
    · refine ⟨H1, ?_, fun z hz => ?_⟩
      · refine (E_X6_nextPlan_2 ..).trans ?_
        simp only [q, if_true, i01, if_false, decide_true]
      · simp only [q, decide_true, Option.some.injEq] at hz
        subst hz
        exact hy
    · simp only [q, if_false, decide_false]
      exact m_nextp mv k l y H1 hr.2 (fun z hz => hb z (List.mem_cons_of_mem _ hz)) hy
end PLANM
