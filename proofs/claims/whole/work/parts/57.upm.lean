/-! UP, the reference's side -/
section UPM
variable {r : zE} {c0 c1 c2 : Nat} {I : Nat → Int32} {J : Nat → Int64} {Q : Nat → Nat → Int32} {N A : zBr} {U : Nat → Int32} {V : Nat → Int64} {X : Nat → Nat → Int32} {S : zSs} {t : zH} {C : zCs} {c n : Nat}
def yAdj (C : zCs) (H : zA) (w : Int32) (a b : Nat) : Bool := !decide (sBes C H b a w = 0)
def yHt (C : zCs) (a : Nat) : Nat := (sHt (C.2.2.2.1 a)).toNatClampNeg
theorem yHt_eq (C : zCs) (a : Nat) : sHt (C.2.2.2.1 a) = nI (yHt C a) ∧ yHt C a ≤ 2 := by
  obtain ⟨x, hx, e⟩ := lim_ht (C.2.2.2.1 a)
  unfold yHt
  rw [e, nI_clamp (by omega)]
  exact ⟨rfl, hx⟩
def yMen (C : zCs) (H : zA) (w : Int32) : List Nat := (List.range C.2.1).filter fun m => !decide (sIn C H m w = 0)
theorem sm_lt {H : zA} {w : Int32} {a : Nat} (h : a ∈ yMen C H w) : a < C.2.1 ∧ ¬ sIn C H a w = 0 := by
  unfold yMen at h
  rw [List.mem_filter, List.mem_range] at h
  simpa using h
theorem sm_len (k : zCk C) (H : zA) (w : Int32) : (yMen C H w).length ≤ 6 := Nat.le_trans (List.length_filter_le _ _) (by rw [List.length_range]; exact k.2.1)
theorem m_up35 (mv : zMv C U X) (k : zCk C) (w a : Int32) (O : zA) : ∃ O', zev r i_X6_up 35 [some (.ref (r.1 + 49)), some (.int w), some (.int a), some (.int 0), some (.int 0), none, none, none] [] (zmk r c0 c1 c2 I J Q N A U V X ((S.1, S.2.1, O)) t) = zev r i_X6_up 78 [some (.ref (r.1 + 49)), some (.int w), some (.int a), some (.int (nI (yMen C S.1 w).length)), some (.int (-9)), some (.int 1), none, none] [] (zmk r c0 c1 c2 I J Q N A U V X ((S.1, S.2.1, O')) t) ∧ yOx O' (yMen C S.1 w) := by
  have k2 := k.2.1
  have l := zloopP (fun j (s : zA × List Nat) => s.2 = (List.range j).filter (fun m => !decide (sIn C S.1 m w = 0)) ∧ yOx s.1 s.2) (fun j (s : zA × List Nat) => zev r i_X6_up 35 [some (.ref (r.1 + 49)), some (.int w), some (.int a), some (.int (nI s.2.length)), some (.int (nI j)), none, none, none] [] (zmk r c0 c1 c2 I J Q N A U V X ((S.1, S.2.1, s.1)) t)) (fun s => zev r i_X6_up 78 [some (.ref (r.1 + 49)), some (.int w), some (.int a), some (.int (nI s.2.length)), some (.int (-9)), some (.int 1), none, none] [] (zmk r c0 c1 c2 I J Q N A U V X ((S.1, S.2.1, s.1)) t)) (fun s m => if sIn C S.1 m w = 0 then s else (upd s.1 s.2.length (nI m), s.2 ++ [m])) C.2.1 (fun j s hj p => by
    have ei := m_isin (r := r) (c0 := c0) (c1 := c1) (c2 := c2) (I := I) (J := J) (Q := Q) (N := N) (A := A) (V := V) (S := (S.1, S.2.1, s.1)) (t := t) mv k hj w
    have lj : s.2.length ≤ j := by rw [p.1]; exact Nat.le_trans (List.length_filter_le _ _) (by rw [List.length_range]; exact Nat.le_refl _)
    refine ⟨(E_X6_up_35 ..).trans ?_, ?_⟩
    · simp only [mo_49, mg_49_0, mg_49_1, mg_49_2, mg_49_3, mg_49_4, mg_49_5, mg_49_6, mg_49_7, mg_49_8, mg_49_9, mg_49_10, mg_49_11, mg_49_12, mg_49_13, mg_49_14, mg_49_15, mg_49_16, mg_49_17, mg_49_18, mg_49_19, mg_49_20, mg_49_21, mg_49_22, mg_49_23, mg_49_24, mg_49_25, Option.bind_some, if_pos (m_lt mv k hj), if_true, ei, zcI_some, nI_1, mw_64 (show s.2.length < 6 by omega)]
      by_cases q : sIn C S.1 j w = 0
      · rw [if_pos q, if_pos q]
      · rw [if_neg q, if_neg q, List.length_append]; rfl
    · by_cases q : sIn C S.1 j w = 0
      · rw [if_pos q, List.range_succ, List.filter_append]
        simp only [q, List.filter_cons, List.filter_nil, decide_true, Bool.not_true, Bool.false_eq_true, if_false, List.append_nil]
        exact p
      · rw [if_neg q, List.range_succ, List.filter_append]
        refine ⟨?_, fun i hi => ?_⟩
        · simp only [q, List.filter_cons, List.filter_nil, decide_false, Bool.not_false, if_true]
          rw [p.1]
        · simp only [List.length_append, List.length_cons, List.length_nil] at hi
          by_cases e : i = s.2.length
          · subst e
            simp [upd_s]
          · show upd s.1 s.2.length (nI j) i = nI ((s.2 ++ [j]).getD i 0)
            rw [upd_n e, p.2 i (by omega), List.getD_eq_getElem?_getD, List.getD_eq_getElem?_getD, List.getElem?_append_left (by omega)]) (fun s _ => by
    refine (E_X6_up_35 ..).trans ?_
    simp only [mo_49, mg_49_0, mg_49_1, mg_49_2, mg_49_3, mg_49_4, mg_49_5, mg_49_6, mg_49_7, mg_49_8, mg_49_9, mg_49_10, mg_49_11, mg_49_12, mg_49_13, mg_49_14, mg_49_15, mg_49_16, mg_49_17, mg_49_18, mg_49_19, mg_49_20, mg_49_21, mg_49_22, mg_49_23, mg_49_24, mg_49_25, Option.bind_some, if_neg (m_nlt mv k)]) (O, []) ⟨rfl, fun i hi => absurd hi (by simp)⟩
  generalize zfd (fun (s : zA × List Nat) m => if sIn C S.1 m w = 0 then s else (upd s.1 s.2.length (nI m), s.2 ++ [m])) 0 C.2.1 (O, []) = z at l
  obtain ⟨l1, l2, l3⟩ := l
  refine ⟨z.1, l1.trans ?_, ?_⟩
  · rw [l2]; rfl
  · rw [l2] at l3; exact l3
theorem drop_at {o l : List Nat} {a q : Nat} (h : o.drop q = a :: l) : q < o.length ∧ o.getD q 0 = a ∧ o.drop (q + 1) = l := by
  have hq : q < o.length := Nat.lt_of_not_le fun w => by rw [List.drop_of_length_le w] at h; exact absurd h (by simp)
  rw [List.drop_eq_getElem_cons hq] at h
  simp only [List.cons.injEq] at h
  refine ⟨hq, ?_, h.2⟩
  rw [List.getD_eq_getElem?_getD, List.getElem?_eq_getElem hq]
  exact h.1
theorem m_way17 (mv : zMv C U X) (k : zCk C) {o : List Nat} (ho : yOx S.2.2 o) (b : ∀ a, a ∈ o → a < C.2.1) (h6 : o.length ≤ 6) (w : Int32) {i : Nat} (hi : i < o.length) : ∀ (l : List Nat) (q z : Nat), o.drop q = l → q ≤ o.length → zev r i_X6_inTheWay 17 [some (.ref (r.1 + 49)), some (.int (nI o.length)), some (.int w), some (.int (nI z)), some (.int (nI i)), some (.int (nI q))] [] (zmk r c0 c1 c2 I J Q N A U V X S t) = zev r i_X6_inTheWay 5 [some (.ref (r.1 + 49)), some (.int (nI o.length)), some (.int w), some (.int (nI (z + (l.map (yWw (yAdj C S.1 w) (yHt C) (o.getD i 0))).sum))), some (.int (nI (i + 1))), none] [] (zmk r c0 c1 c2 I J Q N A U V X S t)
  | [], q, z, h, hq => by
    have : o.length ≤ q := List.drop_eq_nil_iff.mp h
    refine (E_X6_inTheWay_17 ..).trans ?_
    rw [if_neg (nI_nlt this (by omega)), nI_1]; rfl
  | a :: l, q, z, h, _ => by
    have k2 := k.2.1
    obtain ⟨hq, ha, hl⟩ := drop_at h
    have hm : ∀ q, q < o.length → o.getD q 0 < C.2.1 := fun q hq => by
      rw [List.getD_eq_getElem?_getD, List.getElem?_eq_getElem hq]
      exact b _ (List.getElem_mem _)
    have ea := hm q hq
    have eb := hm i hi
    rw [ha] at ea
    have ih := m_way17 mv k ho b h6 w hi l (q + 1) (z + yWw (yAdj C S.1 w) (yHt C) (o.getD i 0) a) hl (by omega)
    refine (E_X6_inTheWay_17 ..).trans ?_
    have e2 : X 2 = C.2.2.2.1 := mv.2.2.2.1
    simp only [if_pos (nI_lt hq (show o.length < 2 ^ 31 by omega)), mo_49, mg_49_0, mg_49_1, mg_49_2, mg_49_3, mg_49_4, mg_49_5, mg_49_6, mg_49_7, mg_49_8, mg_49_9, mg_49_10, mg_49_11, mg_49_12, mg_49_13, mg_49_14, mg_49_15, mg_49_16, mg_49_17, mg_49_18, mg_49_19, mg_49_20, mg_49_21, mg_49_22, mg_49_23, mg_49_24, mg_49_25, Option.bind_some, ma_64 (show q < 6 by omega), ma_64 (show i < 6 by omega), ho q hq, ho i hi, ha, if_true, m_beside1 mv k ea eb, zcI_some, ma_52 (show a < 6 by omega), e2, m_height, nI_1]
    rw [List.map_cons, List.sum_cons, ← Nat.add_assoc]
    refine Eq.trans ?_ ih
    by_cases s : sBes C S.1 a (o.getD i 0) w = 0
    · have wz : yWw (yAdj C S.1 w) (yHt C) (o.getD i 0) a = 0 := by simp only [yWw, yAdj, s, decide_true, Bool.not_true, Bool.false_eq_true, if_false]
      rw [if_pos s, Int32.add_zero, wz]
      rfl
    · have wz : yWw (yAdj C S.1 w) (yHt C) (o.getD i 0) a = 1 + yHt C a := by simp only [yWw, yAdj, s, decide_false, Bool.not_false, if_true]
      rw [if_neg s, (yHt_eq C a).1, show (1 : Int32) = nI 1 from rfl, nI_add, nI_add, wz]
theorem m_way5 (mv : zMv C U X) (k : zCk C) {o : List Nat} (ho : yOx S.2.2 o) (b : ∀ a, a ∈ o → a < C.2.1) (h6 : o.length ≤ 6) (w : Int32) : ∀ (l : List Nat) (i z : Nat), o.drop i = l → i ≤ o.length → zev r i_X6_inTheWay 5 [some (.ref (r.1 + 49)), some (.int (nI o.length)), some (.int w), some (.int (nI z)), some (.int (nI i)), none] [] (zmk r c0 c1 c2 I J Q N A U V X S t) = some (some (.int (nI (z + yCs (yAdj C S.1 w) (yHt C) l))), zmk r c0 c1 c2 I J Q N A U V X S t)
  | [], i, z, h, hi => by
    have : o.length ≤ i := List.drop_eq_nil_iff.mp h
    refine (E_X6_inTheWay_5 ..).trans ?_
    rw [if_neg (nI_nlt this (by omega))]; rfl
  | a :: l, i, z, h, _ => by
    obtain ⟨hi, ha, hl⟩ := drop_at h
    refine (E_X6_inTheWay_5 ..).trans ?_
    rw [if_pos (nI_lt hi (by omega)), nI_1, m_way17 mv k ho b h6 w hi l (i + 1) z hl (by omega), m_way5 mv k ho b h6 w l (i + 1) _ hl (by omega), ha, yCs, Nat.add_assoc]
theorem m_way (mv : zMv C U X) (k : zCk C) {o : List Nat} (ho : yOx S.2.2 o) (b : ∀ a, a ∈ o → a < C.2.1) (h6 : o.length ≤ 6) (w : Int32) : zev r i_X6_inTheWay 0 [some (.ref (r.1 + 49)), some (.int (nI o.length)), some (.int w), none, none, none] [] (zmk r c0 c1 c2 I J Q N A U V X S t) = some (some (.int (nI (yCs (yAdj C S.1 w) (yHt C) o))), zmk r c0 c1 c2 I J Q N A U V X S t) := by
  refine (E_X6_inTheWay_0 ..).trans ?_
  have := m_way5 (r := r) (c0 := c0) (c1 := c1) (c2 := c2) (I := I) (J := J) (Q := Q) (N := N) (A := A) (V := V) (t := t) mv k ho b h6 w o 0 0 rfl (Nat.zero_le _)
  rw [Nat.zero_add] at this
  exact this
/-- the orders, one after the other -/
theorem m_ords {α β : Type} (F F0 : α → zA → β) (g : α → List Nat → α) (Iv : α → Prop) (L : List (List Nat)) (hs : ∀ a O p, Iv a → yOx O p → p ∈ L → Iv (g a p) ∧ ∃ O', (∀ q, yNo p = some q → F a O = F (g a p) O' ∧ yOx O' q) ∧ (yNo p = none → F a O = F0 (g a p) O')) :
    ∀ (l : List (List Nat)) (p : List Nat) (a : α) (O : zA), yRn yNo none (p :: l) → (∀ q, q ∈ p :: l → q ∈ L) → Iv a → yOx O p → ∃ O', F a O = F0 ((p :: l).foldl g a) O' ∧ Iv ((p :: l).foldl g a)
  | [], p, a, O, hr, hL, iv, ho => by
    obtain ⟨iv', O', -, h2⟩ := hs a O p iv ho (hL p List.mem_cons_self)
    exact ⟨O', h2 hr.1, iv'⟩
  | y :: l, p, a, O, hr, hL, iv, ho => by
    obtain ⟨iv', O', h1, -⟩ := hs a O p iv ho (hL p List.mem_cons_self)
    obtain ⟨e1, ho'⟩ := h1 y hr.1
    obtain ⟨O2, e2, iv2⟩ := m_ords F F0 g Iv L hs l y (g a p) O' hr.2 (fun q hq => hL q (List.mem_cons_of_mem _ hq)) iv' ho'
    exact ⟨O2, e1.trans e2, iv2⟩
theorem yPm_head : ∀ (n : Nat) (s : List Nat), s.length = n → ∃ l, yPm n s = s :: l
  | 0, s, h => by
    rw [List.length_eq_zero_iff.mp h]
    exact ⟨[], rfl⟩
  | n + 1, [], h => by simp at h
  | n + 1, a :: s, h => by
    obtain ⟨l, e⟩ := yPm_head n s (by simpa using h)
    rw [yPm, List.flatMap_cons, List.erase_cons_head, e, List.map_cons, List.cons_append]
    exact ⟨_, rfl⟩
/-- a row with an order written into it -/
def yWo (j : Nat) (p : List Nat) (f : zA) : zA := zfd (fun (f : zA) m => upd f (40 * j + m) (nI (p.getD m 0))) 0 p.length (zFl f (40 * j) 40 0)
theorem yWo_in {j : Nat} {p : List Nat} {f : zA} {i : Nat} (hi : i < p.length) : yWo j p f (40 * j + i) = nI (p.getD i 0) := by
  unfold yWo
  have := zfd_inv (f := fun (f : zA) m => upd f (40 * j + m) (nI (p.getD m 0))) (fun q g => i < q → g (40 * j + i) = nI (p.getD i 0)) (j := 0) (n := p.length) (s := zFl f (40 * j) 40 0) (fun h => absurd h (Nat.not_lt_zero _)) (fun g q _ _ ih h => by
    by_cases e : i = q
    · subst e; exact upd_s
    · exact (upd_n (by omega)).trans (ih (by omega)))
  exact this (by omega)
theorem yWo_out {j : Nat} {p : List Nat} (h6 : p.length ≤ 6) {f : zA} {i : Nat} (hi : i < 40 * j ∨ 40 * j + 40 ≤ i) : yWo j p f i = f i := by
  unfold yWo
  have := zfd_inv (f := fun (f : zA) m => upd f (40 * j + m) (nI (p.getD m 0))) (fun q g => g i = f i) (j := 0) (n := p.length) (s := zFl f (40 * j) 40 0) (by unfold zFl; rw [if_neg (by omega)]) (fun g q _ _ ih => (upd_n (by omega)).trans ih)
  exact this
theorem fold_m {α β γ : Type} (g : α × β → γ → α × β) (g1 : α → γ → α) (P : γ → Prop) (h : ∀ a x, P x → (g a x).1 = g1 a.1 x) : ∀ (l : List γ) (a : α × β), (∀ x, x ∈ l → P x) → (l.foldl g a).1 = l.foldl g1 a.1
  | [], _, _ => rfl
  | x :: l, a, hp => by rw [List.foldl_cons, List.foldl_cons, fold_m g g1 P h l _ fun y hy => hp y (List.mem_cons_of_mem _ hy), h _ _ (hp x List.mem_cons_self)]
end UPM
