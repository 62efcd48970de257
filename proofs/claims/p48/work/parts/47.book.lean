/-! MESSMATES, BOOKS: what is so of them -/
section MT
variable {C : zCs} {H : zA}
theorem ad_row (k : zCk C) (v : zVI C H) {m : Nat} (hm : m < C.2.1) : (ySu (fun q => yAd C H m q) C.2.1 = 0) ∨ (ySu (fun q => yAd C H m q) C.2.1 = 1 ∧ ∃ q, q < C.2.1 ∧ ¬ H m = -9 ∧ ¬ H q = -9 ∧ H q = H m + 1) := by
  by_cases h : ∃ q, q < C.2.1 ∧ ¬ yAd C H m q = 0
  · obtain ⟨q, hq, hne⟩ := h
    right
    have hc : C.2.2.2.2.2 m = C.2.2.2.2.2 q ∧ ¬ H m = -9 ∧ ¬ H q = -9 ∧ H q = H m + 1 := by
      unfold yAd at hne
      by_cases c : C.2.2.2.2.2 m = C.2.2.2.2.2 q ∧ ¬ H m = -9 ∧ ¬ H q = -9 ∧ H q = H m + 1
      · exact c
      · rw [if_neg c] at hne; exact absurd rfl hne
    refine ⟨?_, q, hq, hc.2⟩
    rw [su_one hq fun p hp hn => ?_]
    · unfold yAd; rw [if_pos hc]
    · unfold yAd
      rw [if_neg]
      rintro ⟨-, -, h9, e⟩
      exact hn (v.2 p q hp hq (e.trans hc.2.2.2.symm) h9)
  · left
    refine su_zero fun q hq => ?_
    by_cases c : yAd C H m q = 0
    · exact c
    · exact absurd ⟨q, hq, c⟩ h
theorem su_01 {f : Nat → Int32} : ∀ n : Nat, n ≤ 1000 → (∀ i, i < n → f i = 0 ∨ f i = 1) → ∃ x, x ≤ n ∧ ySu f n = nI x ∧ (x = n → ∀ i, i < n → f i = 1)
  | 0, _, _ => ⟨0, Nat.le_refl _, rfl, fun _ i hi => absurd hi (Nat.not_lt_zero i)⟩
  | n + 1, hn, h => by
    obtain ⟨x, hx, ex, h2⟩ := su_01 n (by omega) fun i hi => h i (by omega)
    rw [su_succ, ex]
    rcases h n (by omega) with e | e
    · rw [e, Int32.add_zero]
      exact ⟨x, by omega, rfl, fun q => by omega⟩
    · rw [e, nI_1]
      refine ⟨x + 1, by omega, rfl, fun q i hi => ?_⟩
      by_cases z : i = n
      · subst z; exact e
      · exact h2 (by omega) i (by omega)
/-- messmates side by side: fewer pairs than men -/
theorem mates_lt (k : zCk C) (v : zVI C H) (m0 : 0 < C.2.1) : ∃ x, x < C.2.1 ∧ sMates C H = nI x := by
  have k1 := k.1
  have k2 := k.2.1
  rw [mates_ad]
  obtain ⟨x, hx, ex, h2⟩ := su_01 (f := fun m => ySu (fun q => yAd C H m q) C.2.1) C.2.1 (by omega) fun m hm => (ad_row k v hm).imp id fun h => h.1
  refine ⟨x, ?_, ex⟩
  by_cases z : x = C.2.1
  · exfalso
    have all := h2 z
    have nx : ∀ m, m < C.2.1 → ∃ q, q < C.2.1 ∧ ¬ H m = -9 ∧ ¬ H q = -9 ∧ H q = H m + 1 := fun m hm => by
      rcases ad_row k v hm with e | ⟨-, e⟩
      · have := all m hm
        rw [e] at this
        exact absurd this (by decide)
      · exact e
    have chain : ∀ t : Nat, ∃ m j, m < C.2.1 ∧ j < C.1 ∧ t ≤ j ∧ H m = nI j := fun t => by
      induction t with
      | zero =>
        obtain ⟨q, hq, h1, -⟩ := nx 0 m0
        obtain ⟨j, hj, ej⟩ := (v.1 0 m0).resolve_left h1
        exact ⟨0, j, m0, hj, Nat.zero_le _, ej⟩
      | succ t ih =>
        obtain ⟨m, j, hm, hj, ht, ej⟩ := ih
        obtain ⟨q, hq, -, h1, e⟩ := nx m hm
        obtain ⟨i, hi, ei⟩ := (v.1 q hq).resolve_left h1
        rw [ei, ej, nI_1] at e
        have := (nI_eq (by omega) (by omega)).mp e
        exact ⟨q, i, hq, hi, by omega, ei⟩
    obtain ⟨m, j, -, hj, ht, -⟩ := chain C.1
    omega
  · omega
theorem could_ok (k : zCk C) (m0 : 0 < C.2.1) : ∀ (ps : List (List Nat)) (a : Nat), (∀ p, p ∈ ps → p ∈ yPs C) → a < C.2.1 → ∃ x, a ≤ x ∧ x < C.2.1 ∧ ps.foldl (yMm C) (nI a) = nI x ∧ ∀ p, p ∈ ps → ∃ y, y ≤ x ∧ sMates C (yPl p) = nI y
  | [], a, _, ha => ⟨a, Nat.le_refl _, ha, rfl, fun p hp => absurd hp (by simp)⟩
  | p :: ps, a, h, ha => by
    have k2 := k.2.1
    obtain ⟨y, hy, ey⟩ := mates_lt k (pl_vi (h p List.mem_cons_self) k.1) m0
    rw [List.foldl_cons]
    by_cases c : a < y
    · have e : yMm C (nI a) p = nI y := by
        unfold yMm
        rw [ey, if_pos (nI_lt c (by omega))]
      rw [e]
      obtain ⟨x, h1, h2, h3, h4⟩ := could_ok k m0 ps y (fun q hq => h q (List.mem_cons_of_mem _ hq)) hy
      refine ⟨x, by omega, h2, h3, fun q hq => ?_⟩
      rcases List.mem_cons.mp hq with z | z
      · subst z; exact ⟨y, h1, ey⟩
      · exact h4 q z
    · have e : yMm C (nI a) p = nI a := by
        unfold yMm
        rw [ey, if_neg (nI_nlt (by omega) (by omega))]
      rw [e]
      obtain ⟨x, h1, h2, h3, h4⟩ := could_ok k m0 ps a (fun q hq => h q (List.mem_cons_of_mem _ hq)) ha
      refine ⟨x, by omega, h2, h3, fun q hq => ?_⟩
      rcases List.mem_cons.mp hq with z | z
      · subst z; exact ⟨y, by omega, ey⟩
      · exact h4 q z
end MT
section BK
variable {C : zCs} {L f : zA} {b : Nat}
theorem gf_inv : ∀ (ps : List (List Nat)) (a : Int32 × Int32) (c : Nat) (S : List Nat → Prop), (∀ p, p ∈ ps → p.getD 0 0 < 1000) → a.1 = nI c → c + ps.length < 2 ^ 31 → (c = 0 → ∀ p, ¬ S p) → (a.2 = -9 → c ≠ 1) → (∀ p, S p → p.getD 0 0 < 1000 ∧ (a.2 = -9 ∨ a.2 = nI (p.getD 0 0))) →
    (ps.foldl (yGf C L f b) a).1 = nI (c + (ps.filter fun p => yFt C L f p b).length) ∧ ((ps.foldl (yGf C L f b) a).2 = -9 → c + (ps.filter fun p => yFt C L f p b).length ≠ 1) ∧ ∀ p, S p ∨ p ∈ ps ∧ yFt C L f p b = true → (ps.foldl (yGf C L f b) a).2 = -9 ∨ (ps.foldl (yGf C L f b) a).2 = nI (p.getD 0 0)
  | [], a, c, S, _, e, _, _, h2, h3 => ⟨e, h2, fun p hp => by
    rcases hp with z | ⟨z, -⟩
    · exact (h3 p z).2
    · exact absurd z (by simp)⟩
  | p :: ps, a, c, S, hb, e, hc, h1, h2, h3 => by
    rw [List.foldl_cons]
    simp only [List.length_cons] at hc
    have p0 := hb p List.mem_cons_self
    by_cases y : yFt C L f p b = true
    · have es : yGf C L f b a p = (a.1 + 1, if a.1 = 0 then nI (p.getD 0 0) else if a.2 = nI (p.getD 0 0) then nI (p.getD 0 0) else -9) := if_pos y
      have n9 : ¬ nI (p.getD 0 0) = -9 := nI_n9 (by omega)
      have z0 : a.1 = 0 ↔ c = 0 := by rw [e]; exact nI_eq (b := 0) (by omega) (by decide)
      have key := gf_inv ps (a.1 + 1, if a.1 = 0 then nI (p.getD 0 0) else if a.2 = nI (p.getD 0 0) then nI (p.getD 0 0) else -9) (c + 1) (fun q => S q ∨ q = p) (fun q hq => hb q (List.mem_cons_of_mem _ hq)) (by rw [e, nI_1]) (by omega) (fun q => by omega) (fun q => by
        dsimp only at q
        by_cases c0 : a.1 = 0
        · rw [if_pos c0] at q; exact absurd q n9
        · have := mt z0.mpr c0
          omega) (fun q hq => by
        dsimp only
        rcases hq with z | z
        · refine ⟨(h3 q z).1, ?_⟩
          by_cases c0 : a.1 = 0
          · exact absurd z (h1 (z0.mp c0) q)
          · rw [if_neg c0]
            by_cases c1 : a.2 = nI (p.getD 0 0)
            · rw [if_pos c1]
              rcases (h3 q z).2 with w | w
              · exact absurd (c1.symm.trans w) n9
              · exact .inr (c1.symm.trans w)
            · rw [if_neg c1]; exact .inl rfl
        · subst z
          refine ⟨p0, ?_⟩
          by_cases c0 : a.1 = 0
          · rw [if_pos c0]; exact .inr rfl
          · rw [if_neg c0]
            by_cases c1 : a.2 = nI (q.getD 0 0)
            · rw [if_pos c1]; exact .inr rfl
            · rw [if_neg c1]; exact .inl rfl)
      have fl : ((p :: ps).filter fun p => yFt C L f p b).length = (ps.filter fun p => yFt C L f p b).length + 1 := by
        rw [List.filter_cons_of_pos (by exact y), List.length_cons]
      rw [es, fl]
      obtain ⟨k1, k2, k3⟩ := key
      refine ⟨by rw [k1]; congr 1; omega, fun q => by have := k2 q; omega, fun q hq => k3 q ?_⟩
      rcases hq with z | ⟨z, w⟩
      · exact .inl (.inl z)
      · rcases List.mem_cons.mp z with z | z
        · exact .inl (.inr z)
        · exact .inr ⟨z, w⟩
    · have es : yGf C L f b a p = a := if_neg y
      have fl : ((p :: ps).filter fun p => yFt C L f p b).length = (ps.filter fun p => yFt C L f p b).length := by
        rw [List.filter_cons_of_neg (by exact y)]
      rw [es, fl]
      obtain ⟨k1, k2, k3⟩ := gf_inv ps a c S (fun q hq => hb q (List.mem_cons_of_mem _ hq)) e (by omega) h1 h2 h3
      refine ⟨k1, k2, fun q hq => k3 q ?_⟩
      rcases hq with z | ⟨z, w⟩
      · exact .inl z
      · rcases List.mem_cons.mp z with z | z
        · subst z; exact absurd w y
        · exact .inr ⟨z, w⟩
theorem filter_mono {α : Type} {p q : α → Bool} : ∀ {l : List α}, (∀ x, p x = true → q x = true) → (l.filter p).length ≤ (l.filter q).length
  | [], _ => Nat.le_refl _
  | x :: l, h => by
    have ih := filter_mono (l := l) h
    by_cases c : p x = true
    · rw [List.filter_cons_of_pos c, List.filter_cons_of_pos (h x c), List.length_cons, List.length_cons]; omega
    · rw [List.filter_cons_of_neg c]
      by_cases d : q x = true
      · rw [List.filter_cons_of_pos d, List.length_cons]; omega
      · rw [List.filter_cons_of_neg d]; exact ih
/-- a book told: how many plans fit, the hook of man 0 -/
theorem book_ok (k : zCk C) (m0 : 0 < C.2.1) {p : List Nat} (hp : p ∈ yPs C) (hf : yFt C L f p b = true) : ∃ c, 1 ≤ c ∧ c ≤ 117649 ∧ c = ((yPs C).filter fun p => yFt C L f p b).length ∧ ((yPs C).foldl (yGf C L f b) (0, -9)).1 = nI c ∧ (((yPs C).foldl (yGf C L f b) (0, -9)).2 = -9 → c ≠ 1) ∧ (((yPs C).foldl (yGf C L f b) (0, -9)).2 = -9 ∨ ((yPs C).foldl (yGf C L f b) (0, -9)).2 = nI (p.getD 0 0)) := by
  have k1 := k.1
  have lp := (yPs_len k).2
  have hb : ∀ q, q ∈ yPs C → q.getD 0 0 < 1000 := fun q hq => by
    obtain ⟨h1, h2⟩ := yPs_mem hq
    have := h2 (q.getD 0 0) (by
      rw [List.getD_eq_getElem?_getD, List.getElem?_eq_getElem (by omega)]
      exact List.getElem_mem _)
    omega
  obtain ⟨e1, e2, e3⟩ := gf_inv (C := C) (L := L) (f := f) (b := b) (yPs C) (0, -9) 0 (fun _ => False) hb rfl (by omega) (fun _ _ h => h) (fun _ => by decide) (fun _ h => absurd h id)
  rw [Nat.zero_add] at e1 e2
  refine ⟨_, List.length_pos_of_mem (List.mem_filter.mpr ⟨hp, hf⟩), Nat.le_trans (List.length_filter_le _ _) lp, rfl, e1, e2, e3 p (.inr ⟨hp, hf⟩)⟩
theorem ft_1 {g : zA} {x1 : Int32} (e0 : g 0 = 1) (e1 : g 1 = x1) (p : List Nat) : yFt C L g p 1 = true ↔ sAll C (yPl p) L 1 = x1 := by
  unfold yFt
  rw [all_true]
  constructor
  · intro h
    have := h 0 (by decide)
    rw [decide_eq_true_eq, show 2 * 0 = 0 from rfl, e0, show 0 + 1 = 1 from rfl, e1] at this
    exact this
  · intro h q hq
    have : q = 0 := by omega
    subst this
    rw [decide_eq_true_eq, show 2 * 0 = 0 from rfl, e0, show 0 + 1 = 1 from rfl, e1]
    exact h
theorem ft_2 {g : zA} {x1 x2 : Int32} (e0 : g 0 = 1) (e1 : g 1 = x1) (e2 : g 2 = 2) (e3 : g 3 = x2) (p : List Nat) : yFt C L g p 2 = true ↔ sAll C (yPl p) L 1 = x1 ∧ sAll C (yPl p) L 2 = x2 := by
  unfold yFt
  rw [all_true]
  constructor
  · intro h
    have h0 := h 0 (by decide)
    have h1 := h 1 (by decide)
    rw [decide_eq_true_eq, show 2 * 0 = 0 from rfl, e0, show 0 + 1 = 1 from rfl, e1] at h0
    rw [decide_eq_true_eq, show 2 * 1 = 2 from rfl, e2, show 2 + 1 = 3 from rfl, e3] at h1
    exact ⟨h0, h1⟩
  · rintro ⟨h0, h1⟩ q hq
    by_cases z : q = 0
    · subst z
      rw [decide_eq_true_eq, show 2 * 0 = 0 from rfl, e0, show 0 + 1 = 1 from rfl, e1]
      exact h0
    · have : q = 1 := by omega
      subst this
      rw [decide_eq_true_eq, show 2 * 1 = 2 from rfl, e2, show 2 + 1 = 3 from rfl, e3]
      exact h1
end BK
