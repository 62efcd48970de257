/-! THE NEXT ORDER of the reference -/
def ySwp (o : List Nat) (i j : Nat) : List Nat := (o.set i (o.getD j 0)).set j (o.getD i 0)
def yKs (o : List Nat) : Nat → Option Nat
  | 0 => none
  | l + 1 => if o.getD (l + 1) 0 < o.getD l 0 then yKs o l else some l
def yMs (o : List Nat) (k : Nat) : Nat → Nat
  | 0 => 0
  | l + 1 => if o.getD l 0 < o.getD k 0 then yMs o k l else l
def yRs : Nat → Nat → Nat → List Nat → List Nat
  | 0, _, _, o => o
  | f + 1, i, j, o => if i < j then yRs f (i + 1) (j - 1) (ySwp o i j) else o
def yNo (o : List Nat) : Option (List Nat) := match yKs o (o.length - 1) with
  | none => none
  | some k => some (yRs o.length (k + 1) (o.length - 1) (ySwp o k (yMs o k o.length)))
def yRb : List (List Nat) → Bool
  | [] => true
  | x :: l => decide (yNo x = l.head?) && yRb l
theorem rb_rn : ∀ l : List (List Nat), yRb l = true → yRn yNo none l
  | [], _ => trivial
  | x :: l, h => by
    rw [yRb, Bool.and_eq_true, decide_eq_true_eq] at h
    exact ⟨by rw [Option.or_none]; exact h.1, rb_rn l h.2⟩
def ySb (a b c d e f : Bool) : List Nat := (List.range 6).filter fun i => match i with | 0 => a | 1 => b | 2 => c | 3 => d | 4 => e | _ => f
theorem no_chk : ∀ a b c d e f : Bool, yRb (yPm (ySb a b c d e f).length (ySb a b c d e f)) = true := by decide +kernel
theorem sb_of {n : Nat} (hn : n ≤ 6) (p : Nat → Bool) : ∃ a b c d e f, (List.range n).filter p = ySb a b c d e f := by
  refine ⟨p 0 && decide (0 < n), p 1 && decide (1 < n), p 2 && decide (2 < n), p 3 && decide (3 < n), p 4 && decide (4 < n), p 5 && decide (5 < n), ?_⟩
  have e1 : (List.range n).filter p = (List.range 6).filter fun i => p i && decide (i < n) := by
    have : List.range 6 = List.range n ++ (List.range (6 - n)).map (n + ·) := by
      rw [← List.range_add]; congr 1; omega
    rw [this, List.filter_append]
    have h2 : ((List.range (6 - n)).map (n + ·)).filter (fun i => p i && decide (i < n)) = [] := by
      rw [List.filter_eq_nil_iff]
      intro a ha
      obtain ⟨x, -, rfl⟩ := List.mem_map.mp ha
      simp
    rw [h2, List.append_nil]
    refine List.filter_congr fun i hi => ?_
    rw [List.mem_range] at hi
    simp [hi]
  rw [e1]
  unfold ySb
  refine List.filter_congr fun i hi => ?_
  rw [List.mem_range] at hi
  match i, hi with
  | 0, _ => rfl
  | 1, _ => rfl
  | 2, _ => rfl
  | 3, _ => rfl
  | 4, _ => rfl
  | 5, _ => rfl
  | i + 6, h => exact absurd h (by omega)
theorem no_run {n : Nat} (hn : n ≤ 6) (p : Nat → Bool) : yRn yNo none (yPm ((List.range n).filter p).length ((List.range n).filter p)) := by
  obtain ⟨a, b, c, d, e, f, h⟩ := sb_of hn p
  rw [h]
  exact rb_rn _ (no_chk a b c d e f)
theorem getD_set {o : List Nat} {i : Nat} (hi : i < o.length) (v q : Nat) : (o.set i v).getD q 0 = if q = i then v else o.getD q 0 := by
  rw [List.getD_eq_getElem?_getD, List.getD_eq_getElem?_getD, List.getElem?_set]
  by_cases e : q = i
  · subst e; simp [hi]
  · rw [if_neg (fun w => e w.symm), if_neg e]
theorem getD_lt {o : List Nat} {b : Nat} (h : ∀ a, a ∈ o → a < b) (b0 : 0 < b) (i : Nat) : o.getD i 0 < b := by
  rw [List.getD_eq_getElem?_getD]
  cases e : o[i]? with
  | none => exact b0
  | some a => exact h a (List.mem_of_getElem? e)
theorem swp_len {o : List Nat} {i j : Nat} : (ySwp o i j).length = o.length := by simp [ySwp]
def yOx (f : zA) (o : List Nat) : Prop := ∀ i, i < o.length → f i = nI (o.getD i 0)
theorem ox_swp {f : zA} {o : List Nat} (h : yOx f o) {i j : Nat} (hi : i < o.length) (hj : j < o.length) : yOx (upd (upd f i (f j)) j (f i)) (ySwp o i j) := fun q hq => by
  rw [swp_len] at hq
  unfold ySwp
  rw [getD_set (by simpa using hj), getD_set hi]
  by_cases e1 : q = j
  · subst e1; rw [upd_s, if_pos rfl, h i hi]
  · rw [upd_n e1, if_neg e1]
    by_cases e2 : q = i
    · subst e2; rw [upd_s, if_pos rfl, h j hj]
    · rw [upd_n e2, if_neg e2, h q hq]
theorem yKs_some {o : List Nat} : ∀ {l k : Nat}, yKs o l = some k → k < l ∧ ¬ o.getD (k + 1) 0 < o.getD k 0
  | 0, k, h => by simp [yKs] at h
  | l + 1, k, h => by
    rw [yKs] at h
    by_cases q : o.getD (l + 1) 0 < o.getD l 0
    · rw [if_pos q] at h
      have := yKs_some h
      exact ⟨by omega, this.2⟩
    · rw [if_neg q] at h
      simp only [Option.some.injEq] at h
      subst h
      exact ⟨by omega, q⟩
theorem yMs_b {o : List Nat} {k : Nat} (hk : ¬ o.getD (k + 1) 0 < o.getD k 0) : ∀ {l : Nat}, k + 2 ≤ l → k < yMs o k l ∧ yMs o k l < l
  | 0, h => by omega
  | l + 1, h => by
    rw [yMs]
    by_cases q : o.getD l 0 < o.getD k 0
    · rw [if_pos q]
      have : l ≠ k + 1 := fun w => by subst w; exact hk q
      have := yMs_b hk (l := l) (by omega)
      exact ⟨this.1, by omega⟩
    · rw [if_neg q]
      exact ⟨by omega, by omega⟩
section NEXTO
variable {r : zE} {c0 c1 c2 : Nat} {I : Nat → Int32} {J : Nat → Int64} {Q : Nat → Nat → Int32} {N A : zBr} {U : Nat → Int32} {V : Nat → Int64} {X : Nat → Nat → Int32} {S : zSs} {t : zH} {C : zCs} {c n : Nat}
theorem m_no100 (l1 l2 l3 : Int32) : ∀ (f i j : Nat) (o : List Nat) (O : zA) (l4 : Int32), yOx O o → j < o.length → o.length ≤ 6 → j < f + i → i ≤ 7 → ∃ O', zev r i_X6_nextOrder 100 [some (.ref (r.1 + 49)), some (.int l1), some (.int l2), some (.int l3), some (.int l4), some (.int (nI i)), some (.int (nI j))] [] (zmk r c0 c1 c2 I J Q N A U V X ((S.1, S.2.1, O)) t) = some (some (.int 1), (zmk r c0 c1 c2 I J Q N A U V X ((S.1, S.2.1, O')) t)) ∧ yOx O' (yRs f i j o)
  | 0, i, j, o, O, l4, h, hj, h6, hf, hi7 => by
    refine ⟨O, ?_, h⟩
    refine (E_X6_nextOrder_100 ..).trans ?_
    rw [if_neg (nI_nlt (by omega) (by omega))]
  | f + 1, i, j, o, O, l4, h, hj, h6, hf, hi7 => by
    by_cases q : i < j
    · obtain ⟨O', e1, h1⟩ := m_no100 l1 l2 l3 f (i + 1) (j - 1) (ySwp o i j) (upd (upd O i (O j)) j (O i)) (O i) (ox_swp h (by omega) hj) (by rw [swp_len]; omega) (by rw [swp_len]; exact h6) (by omega) (by omega)
      refine ⟨O', ?_, by rw [yRs, if_pos q]; exact h1⟩
      refine (E_X6_nextOrder_100 ..).trans ?_
      have ej : nI j + -1 = nI (j - 1) := by
        obtain ⟨j', rfl⟩ : ∃ j', j = j' + 1 := ⟨j - 1, by omega⟩
        rw [← Int32.sub_eq_add_neg, nI_pred]; rfl
      rw [if_pos (nI_lt q (by omega))]
      simp only [mo_49, mg_49_0, mg_49_1, mg_49_2, mg_49_3, mg_49_4, mg_49_5, mg_49_6, mg_49_7, mg_49_8, mg_49_9, mg_49_10, mg_49_11, mg_49_12, mg_49_13, mg_49_14, mg_49_15, mg_49_16, mg_49_17, mg_49_18, mg_49_19, mg_49_20, mg_49_21, mg_49_22, mg_49_23, mg_49_24, mg_49_25, Option.bind_some, ma_64 (show i < 6 by omega), ma_64 (show j < 6 by omega), mw_64 (show i < 6 by omega), mw_64 (show j < 6 by omega), nI_1, ej]
      exact e1
    · refine ⟨O, ?_, by rw [yRs, if_neg q]; exact h⟩
      refine (E_X6_nextOrder_100 ..).trans ?_
      rw [if_neg (nI_nlt (by omega) (by omega))]
theorem ox_lt {O : zA} {o : List Nat} (h : yOx O o) (b : ∀ a, a ∈ o → a < 6) {i j : Nat} (hi : i < o.length) (hj : j < o.length) : O i < O j ↔ o.getD i 0 < o.getD j 0 := by
  have bi := getD_lt b (by decide) i
  have bj := getD_lt b (by decide) j
  rw [h i hi, h j hj]
  exact ⟨fun w => Decidable.byContradiction fun q => nI_nlt (by omega) (by omega) w, fun w => nI_lt w (by omega)⟩
theorem m_no41 {o : List Nat} {O : zA} (h : yOx O o) (h6 : o.length ≤ 6) (b : ∀ a, a ∈ o → a < 6) {k : Nat} (hk : ¬ o.getD (k + 1) 0 < o.getD k 0) : ∀ l, k + 2 ≤ l → l ≤ o.length → zev r i_X6_nextOrder 41 [some (.ref (r.1 + 49)), some (.int (nI o.length)), some (.int (nI k)), some (.int (nI l - 1)), none, none, none] [] (zmk r c0 c1 c2 I J Q N A U V X ((S.1, S.2.1, O)) t) = zev r i_X6_nextOrder 100 [some (.ref (r.1 + 49)), some (.int (nI o.length)), some (.int (nI k)), some (.int (nI (yMs o k l))), some (.int (O k)), some (.int (nI (k + 1))), some (.int (nI (o.length - 1)))] [] (zmk r c0 c1 c2 I J Q N A U V X ((S.1, S.2.1, upd (upd O k (O (yMs o k l))) (yMs o k l) (O k))) t)
  | 0, h1, h2 => by omega
  | l + 1, h1, h2 => by
    have hl : l < o.length := by omega
    have hko : k < o.length := by omega
    refine (E_X6_nextOrder_41 ..).trans ?_
    have en : nI o.length - 1 = nI (o.length - 1) := pk_sub (a := o.length) (b := 1) (by omega)
    simp only [nI_pred, mo_49, mg_49_0, mg_49_1, mg_49_2, mg_49_3, mg_49_4, mg_49_5, mg_49_6, mg_49_7, mg_49_8, mg_49_9, mg_49_10, mg_49_11, mg_49_12, mg_49_13, mg_49_14, mg_49_15, mg_49_16, mg_49_17, mg_49_18, mg_49_19, mg_49_20, mg_49_21, mg_49_22, mg_49_23, mg_49_24, mg_49_25, Option.bind_some, ma_64 (show k < 6 by omega), ma_64 (show l < 6 by omega), ox_lt h b hl hko]
    by_cases q : o.getD l 0 < o.getD k 0
    · have : l ≠ k + 1 := fun w => by subst w; exact hk q
      rw [if_pos q, yMs, if_pos q, ← Int32.sub_eq_add_neg]
      exact m_no41 h h6 b hk l (by omega) (by omega)
    · rw [if_neg q, yMs, if_neg q]
      simp only [mw_64 (show k < 6 by omega), mw_64 (show l < 6 by omega), mo_49, mg_49_0, mg_49_1, mg_49_2, mg_49_3, mg_49_4, mg_49_5, mg_49_6, mg_49_7, mg_49_8, mg_49_9, mg_49_10, mg_49_11, mg_49_12, mg_49_13, mg_49_14, mg_49_15, mg_49_16, mg_49_17, mg_49_18, mg_49_19, mg_49_20, mg_49_21, mg_49_22, mg_49_23, mg_49_24, mg_49_25, Option.bind_some, nI_1, en]
theorem m_no4 {o : List Nat} {O : zA} (h : yOx O o) (h6 : o.length ≤ 6) (b : ∀ a, a ∈ o → a < 6) : ∀ l, l + 1 ≤ o.length ∨ l = 0 → zev r i_X6_nextOrder 4 [some (.ref (r.1 + 49)), some (.int (nI o.length)), some (.int (nI l - 1)), none, none, none, none] [] (zmk r c0 c1 c2 I J Q N A U V X ((S.1, S.2.1, O)) t) = match yKs o l with
    | none => some (some (.int 0), (zmk r c0 c1 c2 I J Q N A U V X ((S.1, S.2.1, O)) t))
    | some k => zev r i_X6_nextOrder 41 [some (.ref (r.1 + 49)), some (.int (nI o.length)), some (.int (nI k)), some (.int (nI o.length - 1)), none, none, none] [] (zmk r c0 c1 c2 I J Q N A U V X ((S.1, S.2.1, O)) t)
  | 0, _ => by
    refine (E_X6_nextOrder_4 ..).trans ?_
    rw [if_pos (show nI 0 - 1 < 0 by decide), if_pos (show nI 0 - 1 < 0 by decide)]
    rfl
  | l + 1, hl => by
    have h1 : l + 1 < o.length := by omega
    have h2 : l < o.length := by omega
    refine (E_X6_nextOrder_4 ..).trans ?_
    simp only [nI_pred, if_neg (nI_pos (show l < 2 ^ 31 by omega)), mo_49, mg_49_0, mg_49_1, mg_49_2, mg_49_3, mg_49_4, mg_49_5, mg_49_6, mg_49_7, mg_49_8, mg_49_9, mg_49_10, mg_49_11, mg_49_12, mg_49_13, mg_49_14, mg_49_15, mg_49_16, mg_49_17, mg_49_18, mg_49_19, mg_49_20, mg_49_21, mg_49_22, mg_49_23, mg_49_24, mg_49_25, Option.bind_some, nI_1, ma_64 (show l < 6 by omega), ma_64 (show l + 1 < 6 by omega), ox_lt h b h1 h2]
    by_cases q : o.getD (l + 1) 0 < o.getD l 0
    · rw [if_pos q, yKs, if_pos q, ← Int32.sub_eq_add_neg]
      exact m_no4 h h6 b l (by omega)
    · rw [if_neg q, yKs, if_neg q]
theorem m_nexto {o : List Nat} {O : zA} (h : yOx O o) (h6 : o.length ≤ 6) (b : ∀ a, a ∈ o → a < 6) : ∃ O', zev r i_X6_nextOrder 0 [some (.ref (r.1 + 49)), some (.int (nI o.length)), none, none, none, none, none] [] (zmk r c0 c1 c2 I J Q N A U V X ((S.1, S.2.1, O)) t) = some (some (.int (match yNo o with | some _ => 1 | none => 0)), (zmk r c0 c1 c2 I J Q N A U V X ((S.1, S.2.1, O')) t)) ∧ ∀ o', yNo o = some o' → yOx O' o' := by
  have e0 : zev r i_X6_nextOrder 0 [some (.ref (r.1 + 49)), some (.int (nI o.length)), none, none, none, none, none] [] (zmk r c0 c1 c2 I J Q N A U V X ((S.1, S.2.1, O)) t) = match yKs o (o.length - 1) with
    | none => some (some (.int 0), (zmk r c0 c1 c2 I J Q N A U V X ((S.1, S.2.1, O)) t))
    | some k => zev r i_X6_nextOrder 41 [some (.ref (r.1 + 49)), some (.int (nI o.length)), some (.int (nI k)), some (.int (nI o.length - 1)), none, none, none] [] (zmk r c0 c1 c2 I J Q N A U V X ((S.1, S.2.1, O)) t) := by
    refine (E_X6_nextOrder_0 ..).trans ?_
    by_cases z : o.length = 0
    · rw [z]
      refine (E_X6_nextOrder_4 ..).trans ?_
      rw [if_pos (show nI 0 - 2 < 0 by decide), if_pos (show nI 0 - 2 < 0 by decide)]
      rfl
    · have : nI o.length - 2 = nI (o.length - 1) - 1 := by
        obtain ⟨q, hq⟩ : ∃ q, o.length = q + 1 := ⟨o.length - 1, by omega⟩
        rw [hq, Nat.add_sub_cancel, ← nI_1, show (2 : Int32) = 1 + 1 from rfl]
        rw [Int32.sub_eq_add_neg, Int32.sub_eq_add_neg, Int32.add_assoc]
        rfl
      rw [this]
      exact m_no4 h h6 b (o.length - 1) (by omega)
  rw [e0]
  unfold yNo
  cases e : yKs o (o.length - 1) with
  | none => exact ⟨O, rfl, fun o' ho => absurd ho (by simp)⟩
  | some k =>
    obtain ⟨h1, h2⟩ := yKs_some e
    obtain ⟨h3, h4⟩ := yMs_b h2 (l := o.length) (by omega)
    obtain ⟨O', e1, h5⟩ := m_no100 (r := r) (c0 := c0) (c1 := c1) (c2 := c2) (I := I) (J := J) (Q := Q) (N := N) (A := A) (U := U) (V := V) (X := X) (S := S) (t := t) (nI o.length) (nI k) (nI (yMs o k o.length)) o.length (k + 1) (o.length - 1) (ySwp o k (yMs o k o.length)) _ (O k) (ox_swp h (by omega) h4) (by rw [swp_len]; omega) (by rw [swp_len]; exact h6) (by omega) (by omega)
    refine ⟨O', ?_, fun o' ho => ?_⟩
    · dsimp only
      rw [m_no41 h h6 b h2 o.length (by omega) (Nat.le_refl _)]
      exact e1
    · simp only [Option.some.injEq] at ho
      subst ho
      exact h5
end NEXTO
