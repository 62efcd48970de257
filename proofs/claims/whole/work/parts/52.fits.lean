/-! FITS: both alike -/
section FITS
variable {r : zE} {c0 c1 c2 : Nat} {I : Nat → Int32} {J : Nat → Int64} {Q : Nat → Nat → Int32} {N A : zBr} {U : Nat → Int32} {V : Nat → Int64} {X : Nat → Nat → Int32} {S : zSs} {t : zH} {C : zCs} {c n : Nat}
/-- a plan fits the book, as far as it tells of one when -/
def yFw (C : zCs) (L f : zA) (p : List Nat) (w b : Nat) : Bool := (List.range b).all fun q => !decide (f (2 * q) = nI w) || decide (sAll C (yPl p) L (nI w) = f (2 * q + 1))
def yFt (C : zCs) (L f : zA) (p : List Nat) (b : Nat) : Bool := (List.range b).all fun q => decide (sAll C (yPl p) L (f (2 * q)) = f (2 * q + 1))
def yWs (f : zA) (b : Nat) : Bool := (List.range b).all fun q => decide (zhk 3 (f (2 * q)) = 1)
theorem all_succ (g : Nat → Bool) (b : Nat) : (List.range (b + 1)).all g = ((List.range b).all g && g b) := by
  rw [List.range_succ, List.all_append]
  simp
theorem all_true {g : Nat → Bool} {b : Nat} : (List.range b).all g = true ↔ ∀ q, q < b → g q = true := by
  rw [List.all_eq_true]
  simp
theorem all_false {g : Nat → Bool} {q b : Nat} (h : q < b) (e : g q = false) : (List.range b).all g = false := by
  cases h2 : (List.range b).all g with
  | false => rfl
  | true => rw [all_true.mp h2 q h] at e; exact absurd e (by decide)
theorem fw_ft {L f : zA} {p : List Nat} {b : Nat} (hw : yWs f b = true) : ((yFw C L f p 0 b && yFw C L f p 1 b) && yFw C L f p 2 b) = yFt C L f p b := by
  rw [Bool.eq_iff_iff]
  simp only [Bool.and_eq_true]
  unfold yFw yFt
  unfold yWs at hw
  rw [all_true, all_true, all_true, all_true]
  have hw := all_true.mp hw
  constructor
  · rintro ⟨⟨h0, h1⟩, h2⟩ q hq
    have z := hw q hq
    simp only [decide_eq_true_eq] at z
    rcases zhk_cases 3 (by decide) (f (2 * q)) with e | ⟨-, w, w3, e⟩
    · rw [e] at z; exact absurd z (by decide)
    · have a0 := h0 q hq
      have a1 := h1 q hq
      have a2 := h2 q hq
      simp only [Bool.or_eq_true, Bool.not_eq_true', decide_eq_false_iff_not, decide_eq_true_eq] at a0 a1 a2 ⊢
      rw [e] at a0 a1 a2 ⊢
      match w, w3 with
      | 0, _ => exact a0.resolve_left fun y => y rfl
      | 1, _ => exact a1.resolve_left fun y => y rfl
      | 2, _ => exact a2.resolve_left fun y => y rfl
      | w + 3, h => exact absurd h (by omega)
  · intro h
    have key : ∀ w : Nat, ∀ q, q < b → (!decide (f (2 * q) = nI w) || decide (sAll C (yPl p) L (nI w) = f (2 * q + 1))) = true := fun w q hq => by
      have z := h q hq
      simp only [Bool.or_eq_true, Bool.not_eq_true', decide_eq_false_iff_not, decide_eq_true_eq] at z ⊢
      by_cases y : f (2 * q) = nI w
      · right; rw [← y]; exact z
      · left; exact y
    exact ⟨⟨key 0, key 1⟩, key 2⟩
theorem nI_2 (q : Nat) : nI (2 * q) + 2 = nI (2 * (q + 1)) := nI_add (2 * q) 2
theorem k_fitw (E : zEk r) (k : zCk C) (hC : zCt r t c C) {L : zA} (lk : zLk C L) {p : List Nat} (ao : yAo C L A p) {j b : Nat} (hj : j < 6) (hb : 2 * b ≤ 40) (hs : I (6 + j) = nI (2 * b)) (w : Nat) : zev r i_X5_fitsBookBy 0 [some (.ref (r.1 + 0)), some (.int (nI w)), some (.ref (r.1 + 23 + 2 * j)), none, none] [] (zmk r c0 c1 (c) I J Q N A U V X S t) = some (some (.int (if yFw C L (Q (13 + j)) p w b = true then 1 else 0)), (zmk r c0 c1 (c) I J Q N A U V X S t)) := by
  have ax := aBx (r := r) (c0 := c0) (c1 := c1) (I := I) (J := J) (Q := Q) (N := N) (U := U) (V := V) (X := X) (S := S) hC
  have ea := b_all ax k E (B := A) (lk_c ao.2.2.1 lk) ao.1 (nI w)
  rw [sAll_c (hx_pl ao.2.1) ao.2.2.1] at ea
  obtain ⟨y, hy, ey⟩ := lim_sAll k lk (pl_vd ao.2.1 ao.2.2.2) (nI w)
  rw [sAll_c (hx_pl ao.2.1) (fun _ _ => rfl)] at ey
  have n9 : ¬ sAll C (yPl p) L (nI w) = -9 := by rw [ey]; exact nI_n9 (by omega)
  rw [E_X5_fitsBookBy_0]
  refine zloopS (fun q (m : Int32) => (m = -9 ∨ m = sAll C (yPl p) L (nI w)) ∧ yFw C L (Q (13 + j)) p w q = true) (fun e => e = some (some (.int (if yFw C L (Q (13 + j)) p w b = true then 1 else 0)), (zmk r c0 c1 (c) I J Q N A U V X S t))) (fun q (m : Int32) => zev r i_X5_fitsBookBy 6 [some (.ref (r.1 + 0)), some (.int (nI w)), some (.ref (r.1 + 23 + 2 * j)), some (.int m), some (.int (nI (2 * q)))] [] (zmk r c0 c1 (c) I J Q N A U V X S t)) b (fun q m hq P => ?_) (fun m P => ?_) (-9) ⟨.inl rfl, by simp [yFw]⟩
  · have lt : nI (2 * q) < nI (2 * b) := nI_lt (by omega) (by omega)
    have g0 := wr_get (r := r) (c0 := c0) (c1 := c1) (c2 := c) (I := I) (J := J) (Q := Q) (N := N) (A := A) (U := U) (V := V) (X := X) (S := S) (t := t) hj hs (by omega) (nI (2 * q))
    have g1 := wr_get (r := r) (c0 := c0) (c1 := c1) (c2 := c) (I := I) (J := J) (Q := Q) (N := N) (A := A) (U := U) (V := V) (X := X) (S := S) (t := t) hj hs (by omega) (nI (2 * q + 1))
    rw [zhk_in (show 2 * q < 2 * b by omega) (by omega), if_neg i01, nI_clamp (by omega)] at g0
    rw [zhk_in (show 2 * q + 1 < 2 * b by omega) (by omega), if_neg i01, nI_clamp (by omega)] at g1
    have fin : ∀ v, yFw C L (Q (13 + j)) p w b = v → v = false → some (some (Value.int 0), (zmk r c0 c1 (c) I J Q N A U V X S t)) = some (some (.int (if yFw C L (Q (13 + j)) p w b = true then 1 else 0)), (zmk r c0 c1 (c) I J Q N A U V X S t)) := fun v e1 e2 => by rw [e1, e2]; rfl
    by_cases y1 : Q (13 + j) (2 * q) = nI w
    · by_cases y2 : sAll C (yPl p) L (nI w) = Q (13 + j) (2 * q + 1)
      · refine .inr ⟨sAll C (yPl p) L (nI w), ?_, .inr rfl, ?_⟩
        · refine (E_X5_fitsBookBy_6 ..).trans ?_
          simp only [mgs_r hj, hs, Option.bind_some, lt, if_true, mo_r hj, g0, g1, y1, zcI_some, nI_2, nI_1]
          rcases P.1 with z | z
          · rw [if_pos z]
            simp only [mo_0, mg_0_0, mg_0_1, mg_0_2, mg_0_3, mg_0_4, mg_0_5, mg_0_6, mg_0_7, mg_0_8, mg_0_9, mg_0_10, mg_0_11, mo_14, Option.bind_some, if_true, ea, zcI_some, mo_r hj, g1, y2]
          · rw [if_neg (by rw [z]; exact n9), z, if_pos y2]
        · unfold yFw
          rw [all_succ]
          simp only [Bool.and_eq_true]
          refine ⟨P.2, ?_⟩
          simp [y2]
      · left
        have ff : yFw C L (Q (13 + j)) p w b = false := all_false hq (by simp [y1, y2])
        rw [ff]
        refine (E_X5_fitsBookBy_6 ..).trans ?_
        simp only [mgs_r hj, hs, Option.bind_some, lt, if_true, mo_r hj, g0, g1, y1, zcI_some, nI_2, nI_1]
        rcases P.1 with z | z
        · rw [if_pos z]
          simp only [mo_0, mg_0_0, mg_0_1, mg_0_2, mg_0_3, mg_0_4, mg_0_5, mg_0_6, mg_0_7, mg_0_8, mg_0_9, mg_0_10, mg_0_11, mo_14, Option.bind_some, if_true, ea, zcI_some, mo_r hj, g1, y2, if_false]
          rfl
        · rw [if_neg (by rw [z]; exact n9), z, if_neg y2]
          rfl
    · refine .inr ⟨m, ?_, P.1, ?_⟩
      · refine (E_X5_fitsBookBy_6 ..).trans ?_
        simp only [mgs_r hj, hs, Option.bind_some, lt, if_true, mo_r hj, g0, y1, if_false, zcI_some, nI_2]
      · unfold yFw
        rw [all_succ]
        simp only [Bool.and_eq_true]
        refine ⟨P.2, ?_⟩
        simp [y1]
  · rw [P.2]
    refine (E_X5_fitsBookBy_6 ..).trans ?_
    simp only [mgs_r hj, hs, Option.bind_some, if_neg (nI_nlt (Nat.le_refl (2 * b)) (show 2 * b < 2 ^ 31 by omega)), if_true]
theorem k_fit (E : zEk r) (k : zCk C) (hC : zCt r t c C) {L : zA} (lk : zLk C L) {p : List Nat} (ao : yAo C L A p) {j b : Nat} (hj : j < 6) (hb : 2 * b ≤ 40) (hs : I (6 + j) = nI (2 * b)) (hw : yWs (Q (13 + j)) b = true) : zev r i_X5_fitsBook 0 [some (.ref (r.1 + 0)), some (.ref (r.1 + 23 + 2 * j)), none] [] (zmk r c0 c1 (c) I J Q N A U V X S t) = some (some (.int (if yFt C L (Q (13 + j)) p b = true then 1 else 0)), (zmk r c0 c1 (c) I J Q N A U V X S t)) := by
  have f0 := k_fitw (c0 := c0) (c1 := c1) (J := J) (Q := Q) (N := N) (U := U) (V := V) (X := X) (S := S) E k hC lk ao hj hb hs 0
  have f1 := k_fitw (c0 := c0) (c1 := c1) (J := J) (Q := Q) (N := N) (U := U) (V := V) (X := X) (S := S) E k hC lk ao hj hb hs 1
  have f2 := k_fitw (c0 := c0) (c1 := c1) (J := J) (Q := Q) (N := N) (U := U) (V := V) (X := X) (S := S) E k hC lk ao hj hb hs 2
  rw [E_X5_fitsBook_0, ← fw_ft hw]
  refine (E_X5_fitsBook_2 ..).trans ?_
  rw [show nI 0 = (0 : Int32) from rfl] at f0
  rw [show nI 1 = (1 : Int32) from rfl] at f1
  rw [show nI 2 = (2 : Int32) from rfl] at f2
  simp only [show ¬ (2 : Int32) < 0 by decide, if_false, mo_0, mg_0_0, mg_0_1, mg_0_2, mg_0_3, mg_0_4, mg_0_5, mg_0_6, mg_0_7, mg_0_8, mg_0_9, mg_0_10, mg_0_11, if_true, f0, zcI_some]
  cases e0 : yFw C L (Q (13 + j)) p 0 b with
  | false => rfl
  | true =>
    simp only [if_true, i01, if_false, Bool.true_and]
    refine (E_X5_fitsBook_2 ..).trans ?_
    simp only [show (0 : Int32) + 1 = 1 by decide, show ¬ (2 : Int32) < 1 by decide, if_false, mo_0, mg_0_0, mg_0_1, mg_0_2, mg_0_3, mg_0_4, mg_0_5, mg_0_6, mg_0_7, mg_0_8, mg_0_9, mg_0_10, mg_0_11, if_true, f1, zcI_some]
    cases e1 : yFw C L (Q (13 + j)) p 1 b with
    | false => rfl
    | true =>
      simp only [if_true, i01, if_false, Bool.true_and]
      refine (E_X5_fitsBook_2 ..).trans ?_
      simp only [show (1 : Int32) + 1 = 2 by decide, show ¬ (2 : Int32) < 2 by decide, if_false, mo_0, mg_0_0, mg_0_1, mg_0_2, mg_0_3, mg_0_4, mg_0_5, mg_0_6, mg_0_7, mg_0_8, mg_0_9, mg_0_10, mg_0_11, if_true, f2, zcI_some]
      cases e2 : yFw C L (Q (13 + j)) p 2 b with
      | false => rfl
      | true =>
        simp only [if_true, i01, if_false]
        refine (E_X5_fitsBook_2 ..).trans ?_
        simp only [show (2 : Int32) < 2 + 1 by decide, if_true]
theorem m_fit (mv : zMv C U X) (k : zCk C) {L : zA} {H : zA} {p : List Nat} (hp : yHx C H p) (hbp : ∀ a, a ∈ p → a < C.1) (hl : ∀ m, m < C.2.1 → S.2.1 m = L m) {j b : Nat} (hj : j < 6) (hb : 2 * b ≤ 40) (hs : X 5 j = nI (2 * b)) {f : zA} (hf : ∀ i, i < 2 * b → f i = X 6 (40 * j + i)) : zev r i_X6_isSo 0 [some (.ref (r.1 + 49)), some (.int (nI j)), none, none] [] (zmk r c0 c1 c2 I J Q N A U V X ((H, S.2)) t) = some (some (.int (if yFt C L f p b = true then 1 else 0)), (zmk r c0 c1 c2 I J Q N A U V X ((H, S.2)) t)) := by
  rw [E_X6_isSo_0]
  refine zloopS (fun q (m : Int32) => m = if yFt C L f p q = true then 1 else 0) (fun e => e = some (some (.int (if yFt C L f p b = true then 1 else 0)), (zmk r c0 c1 c2 I J Q N A U V X ((H, S.2)) t))) (fun q (m : Int32) => zev r i_X6_isSo 4 [some (.ref (r.1 + 49)), some (.int (nI j)), some (.int m), some (.int (nI (2 * q)))] [] (zmk r c0 c1 c2 I J Q N A U V X ((H, S.2)) t)) b (fun q m hq P => ?_) (fun m P => ?_) 1 (by simp [yFt])
  · have lt : nI (2 * q) < nI (2 * b) := nI_lt (by omega) (by omega)
    cases e : yFt C L f p q with
    | false =>
      left
      rw [e] at P
      have ff : yFt C L f p b = false := by
        cases h2 : yFt C L f p b with
        | false => rfl
        | true =>
          have h3 := all_true.mp h2
          have : yFt C L f p q = true := all_true.mpr fun z hz => h3 z (by omega)
          rw [e] at this; exact absurd this (by decide)
      rw [ff, P]
      refine (E_X6_isSo_4 ..).trans ?_
      simp only [mo_49, mg_49_0, mg_49_1, mg_49_2, mg_49_3, mg_49_4, mg_49_5, mg_49_6, mg_49_7, mg_49_8, mg_49_9, mg_49_10, mg_49_11, mg_49_12, mg_49_13, mg_49_14, mg_49_15, mg_49_16, mg_49_17, mg_49_18, mg_49_19, mg_49_20, mg_49_21, mg_49_22, mg_49_23, mg_49_24, mg_49_25, Option.bind_some, ma_55 hj, hs, lt, if_true, if_false, Bool.false_eq_true]
      rfl
    | true =>
      right
      rw [e] at P
      have e40 : (40 : Int32) * nI j + nI (2 * q) = nI (40 * j + 2 * q) := by rw [show (40 : Int32) = nI 40 from rfl, pk_mul, nI_add]
      have ea := m_all (r := r) (c0 := c0) (c1 := c1) (c2 := c2) (I := I) (J := J) (Q := Q) (N := N) (A := A) (V := V) (S := (H, S.2)) (t := t) mv k (pl_vd hp hbp) (f (2 * q))
      dsimp only at ea
      rw [sAll_c (hx_pl hp) hl] at ea
      refine ⟨if yFt C L f p (q + 1) = true then 1 else 0, ?_, rfl⟩
      rw [P]
      refine (E_X6_isSo_4 ..).trans ?_
      have e1 : yFt C L f p (q + 1) = decide (sAll C (yPl p) L (f (2 * q)) = f (2 * q + 1)) := by
        unfold yFt at e ⊢
        rw [all_succ, e, Bool.true_and]
      simp only [mo_49, mg_49_0, mg_49_1, mg_49_2, mg_49_3, mg_49_4, mg_49_5, mg_49_6, mg_49_7, mg_49_8, mg_49_9, mg_49_10, mg_49_11, mg_49_12, mg_49_13, mg_49_14, mg_49_15, mg_49_16, mg_49_17, mg_49_18, mg_49_19, mg_49_20, mg_49_21, mg_49_22, mg_49_23, mg_49_24, mg_49_25, Option.bind_some, ma_55 hj, hs, lt, if_true, i01, if_false, e40, ma_56 (show 40 * j + 2 * q < 240 by omega), nI_1, ma_56 (show 40 * j + 2 * q + 1 < 240 by omega), ← hf (2 * q) (by omega), ea, zcI_some, nI_2, e1, decide_eq_true_eq]
      rw [show X 6 (40 * j + 2 * q + 1) = f (2 * q + 1) from (hf (2 * q + 1) (by omega)).symm]
      split <;> rfl
  · rw [P]
    refine (E_X6_isSo_4 ..).trans ?_
    simp only [mo_49, mg_49_0, mg_49_1, mg_49_2, mg_49_3, mg_49_4, mg_49_5, mg_49_6, mg_49_7, mg_49_8, mg_49_9, mg_49_10, mg_49_11, mg_49_12, mg_49_13, mg_49_14, mg_49_15, mg_49_16, mg_49_17, mg_49_18, mg_49_19, mg_49_20, mg_49_21, mg_49_22, mg_49_23, mg_49_24, mg_49_25, Option.bind_some, ma_55 hj, hs, if_neg (nI_nlt (Nat.le_refl (2 * b)) (show 2 * b < 2 ^ 31 by omega))]
    rw [if_pos (by split; exact .inr rfl; exact .inl rfl)]
theorem m_whens {j b : Nat} (hj : j < 6) (hb : 2 * b ≤ 40) (hs : X 5 j = nI (2 * b)) {f : zA} (hf : ∀ i, i < 2 * b → f i = X 6 (40 * j + i)) : zev r i_X6_areWhens 0 [some (.ref (r.1 + 49)), some (.int (nI j)), none, none] [] (zmk r c0 c1 c2 I J Q N A U V X S t) = some (some (.int (if yWs f b = true then 1 else 0)), (zmk r c0 c1 c2 I J Q N A U V X S t)) := by
  rw [E_X6_areWhens_0]
  refine zloopS (fun q (m : Int32) => m = if yWs f q = true then 1 else 0) (fun e => e = some (some (.int (if yWs f b = true then 1 else 0)), (zmk r c0 c1 c2 I J Q N A U V X S t))) (fun q (m : Int32) => zev r i_X6_areWhens 4 [some (.ref (r.1 + 49)), some (.int (nI j)), some (.int m), some (.int (nI (2 * q)))] [] (zmk r c0 c1 c2 I J Q N A U V X S t)) b (fun q m hq P => .inr ⟨if yWs f (q + 1) = true then 1 else 0, ?_, rfl⟩) (fun m P => ?_) 1 (by simp [yWs])
  · have lt : nI (2 * q) < nI (2 * b) := nI_lt (by omega) (by omega)
    have e40 : (40 : Int32) * nI j + nI (2 * q) = nI (40 * j + 2 * q) := by rw [show (40 : Int32) = nI 40 from rfl, pk_mul, nI_add]
    have e1 : yWs f (q + 1) = (yWs f q && decide (zhk 3 (f (2 * q)) = 1)) := by unfold yWs; exact all_succ _ _
    rw [P, e1]
    refine (E_X6_areWhens_4 ..).trans ?_
    simp only [mo_49, mg_49_0, mg_49_1, mg_49_2, mg_49_3, mg_49_4, mg_49_5, mg_49_6, mg_49_7, mg_49_8, mg_49_9, mg_49_10, mg_49_11, mg_49_12, mg_49_13, mg_49_14, mg_49_15, mg_49_16, mg_49_17, mg_49_18, mg_49_19, mg_49_20, mg_49_21, mg_49_22, mg_49_23, mg_49_24, mg_49_25, Option.bind_some, ma_55 hj, hs, lt, if_true, e40, ma_56 (show 40 * j + 2 * q < 240 by omega), ← hf (2 * q) (by omega), m_when, zcI_some, nI_2]
    cases yWs f q with
    | false => rfl
    | true =>
      simp only [if_true, i01, if_false, Bool.true_and, decide_eq_true_eq]
      rcases zhk_01 3 (f (2 * q)) with z | z
      · rw [z]; rfl
      · rw [z]; rfl
  · rw [P]
    refine (E_X6_areWhens_4 ..).trans ?_
    simp only [mo_49, mg_49_0, mg_49_1, mg_49_2, mg_49_3, mg_49_4, mg_49_5, mg_49_6, mg_49_7, mg_49_8, mg_49_9, mg_49_10, mg_49_11, mg_49_12, mg_49_13, mg_49_14, mg_49_15, mg_49_16, mg_49_17, mg_49_18, mg_49_19, mg_49_20, mg_49_21, mg_49_22, mg_49_23, mg_49_24, mg_49_25, Option.bind_some, ma_55 hj, hs, if_neg (nI_nlt (Nat.le_refl (2 * b)) (show 2 * b < 2 ^ 31 by omega))]
    rw [if_pos (by split; exact .inr rfl; exact .inl rfl)]
/-- how many fit, and where man 0 hangs by all of them -/
def yGf (C : zCs) (L f : zA) (b : Nat) (a : Int32 × Int32) (p : List Nat) : Int32 × Int32 := if yFt C L f p b = true then (a.1 + 1, if a.1 = 0 then nI (p.getD 0 0) else if a.2 = nI (p.getD 0 0) then nI (p.getD 0 0) else -9) else a
theorem k_fits (E : zEk r) (k : zCk C) (hC : zCt r t c C) (no : zNo C N X) (hM : 0 < C.2.1) {j b : Nat} (hj : j < 6) (hb : 2 * b ≤ 40) (hs : I (6 + j) = nI (2 * b)) (hw : yWs (Q (13 + j)) b = true) : ∃ A', zev r i_X5_countFitting 0 [some (.ref (r.1 + 0)), some (.ref (r.1 + 23 + 2 * j)), none, none, none, none] [] (zmk r c c c2 I J Q N A U V X S t) = some (none, (zmk r c c (c) (va_up I 0 ((yPs C).foldl (yGf C N.2.2.1 (Q (13 + j)) b) (0, -9)).2) (va_up (va_up J 0 ((yPs C).foldl (yGf C N.2.2.1 (Q (13 + j)) b) (0, -9)).1.toInt64) 1 1) Q N (A') U V X S t)) := by
  obtain ⟨A0, e0, ao⟩ := a_begin (c2 := c2) (I := I) (J := J) (Q := Q) (A := A) (U := U) (V := V) (S := S) k hC no
  have lp := (yPs_len k).2
  obtain ⟨A1, e1, -⟩ := c_all k N.2.2.1 (fun n (a : Int32 × Int32) A => zev r i_X5_countFitting 18 [some (.ref (r.1 + 0)), some (.ref (r.1 + 23 + 2 * j)), some (.int a.1), some (.int a.2), some (.int (nI n)), none] [] (zmk r c c (c) I J Q N A U V X S t)) (yGf C N.2.2.1 (Q (13 + j)) b) (fun _ => True) (fun n a A p _ hn hp ao => by
    have ef := k_fit (c0 := c) (c1 := c) (J := J) (N := N) (U := U) (V := V) (X := X) (S := S) E k hC no.2.1 ao hj hb hs hw
    obtain ⟨A', en, h1, h2, h3⟩ := a_next (c0 := c) (c1 := c) (I := I) (J := J) (Q := Q) (N := N) (A := A) (U := U) (V := V) (X := X) (S := S) k hC ao
    have n0 : (0 : Int32) < nI (n + 1) := nI_lt (a := 0) (by omega) (by omega)
    refine ⟨trivial, A', ?_, h1, h2, h3⟩
    refine (E_X5_countFitting_18 ..).trans ?_
    unfold yGf
    have z0 : zaI r (zmk r c c (c) I J Q N A U V X S t) (r.1 + 15) 0 = some (nI (p.getD 0 0)) := (ma_15 (j := 0) (by decide)).trans (by rw [ao.2.1.2 0 hM])
    simp only [n0, if_true, mo_0, mg_0_0, mg_0_1, mg_0_2, mg_0_3, mg_0_4, mg_0_5, mg_0_6, mg_0_7, mg_0_8, mg_0_9, mg_0_10, mg_0_11, ef, zcI_some]
    by_cases y : yFt C N.2.2.1 (Q (13 + j)) p b = true
    · simp only [y, if_true, i01, if_false, mo_0, mg_0_0, mg_0_1, mg_0_2, mg_0_3, mg_0_4, mg_0_5, mg_0_6, mg_0_7, mg_0_8, mg_0_9, mg_0_10, mg_0_11, mg_14_1, mo_14, z0, Option.bind_some, en, zcV_some, pk_m1]
      by_cases y1 : a.1 = 0
      · simp only [y1, if_true]
      · by_cases y2 : a.2 = nI (p.getD 0 0)
        · simp only [y1, y2, if_true, if_false]
        · simp only [y1, y2, if_false]
    · simp only [y, if_false, if_true, mo_0, mg_0_0, mg_0_1, mg_0_2, mg_0_3, mg_0_4, mg_0_5, mg_0_6, mg_0_7, mg_0_8, mg_0_9, mg_0_10, mg_0_11, mo_14, Option.bind_some, en, zcV_some, pk_m1, Bool.false_eq_true]) (0, -9) A0 trivial ao
  refine ⟨A1, ?_⟩
  simp only [E_X5_countFitting_0, mo_0, mg_0_0, mg_0_1, mg_0_2, mg_0_3, mg_0_4, mg_0_5, mg_0_6, mg_0_7, mg_0_8, mg_0_9, mg_0_10, mg_0_11, (hC ..).1, Option.bind_some, if_true, e0, zcV_some, cr_plans (hC ..) k, sPlans_eq k, zcI_some]
  refine e1.trans ?_
  refine (E_X5_countFitting_18 ..).trans ?_
  simp only [if_neg (show ¬ (0 : Int32) < nI 0 by decide), mp_0_8, mp_0_9, Option.bind_some, mo_0, mg_0_0, mg_0_1, mg_0_2, mg_0_3, mg_0_4, mg_0_5, mg_0_6, mg_0_7, mg_0_8, mg_0_9, mg_0_10, mg_0_11, if_true, k_tell, zcV_some]
theorem lk_fits (E : zEk r) (a : Int32) {h : zH} (st : zSt r n h) : zBoth r n n (zev r i_X5_fits 0 [some (.ref (r.1 + 0)), some (.int a), none, none] []) (zev r i_X6_fits 0 [some (.ref (r.1 + 49)), some (.int a), none, none, none] []) h := by
  obtain ⟨C, c, c2, I, J, Q, N, A, U, V, X, S, t, rfl, iv, t1, t2⟩ := st
  obtain ⟨k, hC, mv, to, ro, te, no, lo, ke⟩ := id iv
  rcases zhk_cases 6 (by decide) a with e | ⟨e, j, hj, rfl⟩
  · refine both (v := (-1)) (h1 := (zmk r c c c2 I J Q N A U V X S t)) (h2 := (zmk r c c c2 I J Q N A U V X S t)) ?_ ?_ (st_mk iv t1 t2)
    · simp only [E_X5_fits_0, mo_0, mg_0_0, mg_0_1, mg_0_2, mg_0_3, mg_0_4, mg_0_5, mg_0_6, mg_0_7, mg_0_8, mg_0_9, mg_0_10, mg_0_11, if_true, k_rowAt, e, zcQ_null]
    · simp only [E_X6_fits_0, m_row, e, if_true, zcI_some]
  have cj := nI_clamp (show j < 2 ^ 31 by omega)
  by_cases m0 : nI C.2.1 = 0
  · refine both (v := (-4)) (h1 := (zmk r c c c2 I J Q N A U V X S t)) (h2 := (zmk r c c c2 I J Q N A U V X S t)) ?_ ?_ (st_mk iv t1 t2)
    · simp only [E_X5_fits_0, mo_0, mg_0_0, mg_0_1, mg_0_2, mg_0_3, mg_0_4, mg_0_5, mg_0_6, mg_0_7, mg_0_8, mg_0_9, mg_0_10, mg_0_11, if_true, k_rowAt, e, i01, if_false, zcQ_ref, cj, (hC ..).2.2.1, Option.bind_some, m0]
    · simp only [E_X6_fits_0, m_row, e, i01, if_false, zcI_some, mo_49, mg_49_0, mg_49_1, mg_49_2, mg_49_3, mg_49_4, mg_49_5, mg_49_6, mg_49_7, mg_49_8, mg_49_9, mg_49_10, mg_49_11, mg_49_12, mg_49_13, mg_49_14, mg_49_15, mg_49_16, mg_49_17, mg_49_18, mg_49_19, mg_49_20, mg_49_21, mg_49_22, mg_49_23, mg_49_24, mg_49_25, Option.bind_some, mv.2.1, m0, if_true]
  rcases ro j hj with ⟨s1, s2⟩ | ⟨m, hm, s1, s2, s3⟩
  · refine both (v := (-3)) (h1 := (zmk r c c c2 (va_up I 1 (nI 1)) J (va_up Q 0 (upd (Q 0) 1 (Q 0 1 + 1))) N A U V X S t)) (h2 := (zmk r c c c2 (va_up I 1 (nI 1)) J (va_up Q 0 (upd (Q 0) 1 (Q 0 1 + 1))) N A (va_up U 3 (nI 1)) V (va_up X 9 (upd (X 9) 1 (X 9 1 + 1))) S t)) ?_ ?_ (st_mk (iv_found 1 iv (by decide) (by decide)) t1 t2)
    · simp only [E_X5_fits_0, mo_0, mg_0_0, mg_0_1, mg_0_2, mg_0_3, mg_0_4, mg_0_5, mg_0_6, mg_0_7, mg_0_8, mg_0_9, mg_0_10, mg_0_11, if_true, k_rowAt, e, i01, if_false, zcQ_ref, cj, (hC ..).2.2.1, Option.bind_some, m0, mo_r hj, wr_miss hj, s1, zcI_some, k_f1]
    · simp only [E_X6_fits_0, m_row, e, i01, if_false, zcI_some, mo_49, mg_49_0, mg_49_1, mg_49_2, mg_49_3, mg_49_4, mg_49_5, mg_49_6, mg_49_7, mg_49_8, mg_49_9, mg_49_10, mg_49_11, mg_49_12, mg_49_13, mg_49_14, mg_49_15, mg_49_16, mg_49_17, mg_49_18, mg_49_19, mg_49_20, mg_49_21, mg_49_22, mg_49_23, mg_49_24, mg_49_25, Option.bind_some, mv.2.1, m0, if_true, ma_55 hj, s2, show (-1 : Int32) < 0 by decide, m_f1]
  have nm1 := nI_m1 (show m < 2 ^ 31 by omega)
  have npm := nI_pos (show m < 2 ^ 31 by omega)
  have er : nI m - nI m / 2 * 2 = nI (m % 2) := pk_rem (d := 2) (by omega) (by decide) (by decide)
  by_cases o : m % 2 = 0
  · obtain ⟨b, rfl⟩ : ∃ b, m = 2 * b := ⟨m / 2, by omega⟩
    have er0 : nI (2 * b) - nI (2 * b) / 2 * 2 = 0 := by rw [er, o]; rfl
    have k3 := k.2.2.1
    have hM : 0 < C.2.1 := Nat.pos_of_ne_zero fun q => m0 (by rw [q]; rfl)
    have hN : 0 < C.1 := by omega
    have start : zev r i_X5_fits 0 [some (.ref (r.1 + 0)), some (.int (nI j)), none, none] [] (zmk r c c c2 I J Q N A U V X S t) = zev r i_X5_fits 55 [some (.ref (r.1 + 0)), some (.int (nI j)), some (.ref (r.1 + 23 + 2 * j)), some (.int (nI (2 * 0)))] [] (zmk r c c c2 I J Q N A U V X S t) := by
      simp only [E_X5_fits_0, mo_0, mg_0_0, mg_0_1, mg_0_2, mg_0_3, mg_0_4, mg_0_5, mg_0_6, mg_0_7, mg_0_8, mg_0_9, mg_0_10, mg_0_11, if_true, k_rowAt, e, i01, if_false, zcQ_ref, cj, (hC ..).2.2.1, Option.bind_some, m0, mo_r hj, wr_miss hj, s1, nm1, zcI_some, mgs_r hj, show ¬ (2 : Int32) = 0 by decide, er0]
      rfl
    have g0 : ∀ q, q < b → zev r i_X4_get 0 [some (.ref (r.1 + 23 + 2 * j)), some (.int (nI (2 * q)))] [] (zmk r c c c2 I J Q N A U V X S t) = some (some (.int (Q (13 + j) (2 * q))), (zmk r c c c2 I J Q N A U V X S t)) := fun q hq => by
      have g0 := wr_get (r := r) (c0 := c) (c1 := c) (c2 := c2) (I := I) (J := J) (Q := Q) (N := N) (A := A) (U := U) (V := V) (X := X) (S := S) (t := t) hj s1 (by omega) (nI (2 * q))
      rwa [zhk_in (show 2 * q < 2 * b by omega) (by omega), if_neg i01, nI_clamp (by omega)] at g0
    cases hw : yWs (Q (13 + j)) b with
    | false =>
      refine both (v := (-3)) (h1 := (zmk r c c c2 (va_up I 1 (nI 3)) J (va_up Q 0 (upd (Q 0) 3 (Q 0 3 + 1))) N A U V X S t)) (h2 := (zmk r c c c2 (va_up I 1 (nI 3)) J (va_up Q 0 (upd (Q 0) 3 (Q 0 3 + 1))) N A (va_up U 3 (nI 3)) V (va_up X 9 (upd (X 9) 3 (X 9 3 + 1))) S t)) ?_ ?_ (st_mk (iv_found 3 iv (by decide) (by decide)) t1 t2)
      · rw [start]
        refine zloopS (fun q (_ : Unit) => yWs (Q (13 + j)) q = true) (fun e => e = some (some (.int (-3)), (zmk r c c c2 (va_up I 1 (nI 3)) J (va_up Q 0 (upd (Q 0) 3 (Q 0 3 + 1))) N A U V X S t))) (fun q (_ : Unit) => zev r i_X5_fits 55 [some (.ref (r.1 + 0)), some (.int (nI j)), some (.ref (r.1 + 23 + 2 * j)), some (.int (nI (2 * q)))] [] (zmk r c c c2 I J Q N A U V X S t)) b (fun q _ hq P => ?_) (fun _ P => absurd (hw.symm.trans P) (by decide)) () (by simp [yWs])
        have lt : nI (2 * q) < nI (2 * b) := nI_lt (by omega) (by omega)
        rcases zhk_01 3 (Q (13 + j) (2 * q)) with z | z
        · left
          refine (E_X5_fits_55 ..).trans ?_
          simp only [mgs_r hj, s1, Option.bind_some, lt, if_true, mo_r hj, g0 q hq, zcI_some, k_when, z, mo_0, mg_0_0, mg_0_1, mg_0_2, mg_0_3, mg_0_4, mg_0_5, mg_0_6, mg_0_7, mg_0_8, mg_0_9, mg_0_10, mg_0_11, k_f3]
        · refine .inr ⟨(), ?_, ?_⟩
          · refine (E_X5_fits_55 ..).trans ?_
            simp only [mgs_r hj, s1, Option.bind_some, lt, if_true, mo_r hj, g0 q hq, zcI_some, k_when, z, i01, if_false, nI_2]
          · unfold yWs at P ⊢
            rw [all_succ, P]
            simp [z]
      · have ew := m_whens (r := r) (c0 := c) (c1 := c) (c2 := c2) (I := va_up I 1 (nI 3)) (J := J) (Q := va_up Q 0 (upd (Q 0) 3 (Q 0 3 + 1))) (N := N) (A := A) (U := U) (V := V) (S := S) (t := t) hj hm s2 s3
        rw [hw] at ew
        simp only [E_X6_fits_0, m_row, e, i01, if_false, zcI_some, mo_49, mg_49_0, mg_49_1, mg_49_2, mg_49_3, mg_49_4, mg_49_5, mg_49_6, mg_49_7, mg_49_8, mg_49_9, mg_49_10, mg_49_11, mg_49_12, mg_49_13, mg_49_14, mg_49_15, mg_49_16, mg_49_17, mg_49_18, mg_49_19, mg_49_20, mg_49_21, mg_49_22, mg_49_23, mg_49_24, mg_49_25, Option.bind_some, mv.2.1, m0, if_true, ma_55 hj, s2, npm, show ¬ (2 : Int32) = 0 by decide, er0, ew, Bool.false_eq_true, m_f3]
    | true =>
      obtain ⟨A', ec⟩ := k_fits (c2 := c2) (J := J) (A := A) (U := U) (V := V) (S := S) E k hC no hM hj hm s1 hw
      generalize hT : (yPs C).foldl (yGf C N.2.2.1 (Q (13 + j)) b) (0, -9) = T at ec
      have e1 : zev r i_X5_fits 0 [some (.ref (r.1 + 0)), some (.int (nI j)), none, none] [] (zmk r c c c2 I J Q N A U V X S t) = some (some (.int 1), (zmk r c c (c) (va_up I 0 T.2) (va_up (va_up J 0 T.1.toInt64) 1 1) Q N (A') U V X S t)) := by
        rw [start]
        refine zloop (fun q (_ : Unit) => zev r i_X5_fits 55 [some (.ref (r.1 + 0)), some (.int (nI j)), some (.ref (r.1 + 23 + 2 * j)), some (.int (nI (2 * q)))] [] (zmk r c c c2 I J Q N A U V X S t)) (fun _ => some (some (.int 1), (zmk r c c (c) (va_up I 0 T.2) (va_up (va_up J 0 T.1.toInt64) 1 1) Q N (A') U V X S t))) (fun _ _ => ()) b (fun q _ hq => ?_) (fun _ => ?_) ()
        · have lt : nI (2 * q) < nI (2 * b) := nI_lt (by omega) (by omega)
          have z : zhk 3 (Q (13 + j) (2 * q)) = 1 := by simpa using all_true.mp hw q hq
          refine (E_X5_fits_55 ..).trans ?_
          simp only [mgs_r hj, s1, Option.bind_some, lt, if_true, mo_r hj, g0 q hq, zcI_some, k_when, z, i01, if_false, nI_2]
        · refine (E_X5_fits_55 ..).trans ?_
          simp only [mgs_r hj, s1, Option.bind_some, if_neg (nI_nlt (Nat.le_refl (2 * b)) (show 2 * b < 2 ^ 31 by omega)), mo_0, mg_0_0, mg_0_1, mg_0_2, mg_0_3, mg_0_4, mg_0_5, mg_0_6, mg_0_7, mg_0_8, mg_0_9, mg_0_10, mg_0_11, if_true, ec, zcV_some]
      obtain ⟨H0, f0, h0⟩ := m_first (r := r) (S := S) mv k no
      have e2 : ∃ S', zev r i_X6_fits 0 [some (.ref (r.1 + 49)), some (.int (nI j)), none, none, none] [] (zmk r c c (c) (va_up I 0 T.2) (va_up (va_up J 0 T.1.toInt64) 1 1) Q N (A') U V X S t) = some (some (.int 1), (zmk r c c (c) (va_up I 0 T.2) (va_up (va_up J 0 T.1.toInt64) 1 1) Q N (A') (va_up U 2 T.2) (va_up (va_up V 0 T.1.toInt64) 1 1) X (S') t)) := by
        generalize va_up I 0 T.2 = I'
        generalize va_up (va_up J 0 T.1.toInt64) 1 1 = J'
        obtain ⟨H1, e2, -⟩ := m_all' k hN (fun (a : Int32 × Int32) H => zev r i_X6_fits 77 [some (.ref (r.1 + 49)), some (.int (nI j)), some (.int a.1), some (.int a.2), some (.int 1)] [] (zmk r c c (c) (I') (J') Q N (A') U V X ((H, (zNw X S).2)) t)) (fun (a : Int32 × Int32) H => zev r i_X6_fits 77 [some (.ref (r.1 + 49)), some (.int (nI j)), some (.int a.1), some (.int a.2), some (.int 0)] [] (zmk r c c (c) (I') (J') Q N (A') U V X ((H, (zNw X S).2)) t)) (yGf C N.2.2.1 (Q (13 + j)) b) (fun _ => True) (fun a H p l _ hp hb hn hr hbl => by
          have ef := m_fit (r := r) (c0 := c) (c1 := c) (c2 := c) (I := I') (J := J') (Q := Q) (N := N) (A := A') (V := V) (S := zNw X S) (t := t) mv k hp hb (now_l k no) hj hm s2 s3
          obtain ⟨H', en, hn'⟩ := m_go (r := r) (c0 := c) (c1 := c) (c2 := c) (I := I') (J := J') (Q := Q) (N := N) (A := A') (V := V) (S := zNw X S) (t := t) mv k hp hr hbl
          refine ⟨trivial, H', ?_⟩
          have z0 : zaI r (zmk r c c (c) (I') (J') Q N (A') U V X ((H, (zNw X S).2)) t) (r.1 + 62) 0 = some (nI (p.getD 0 0)) := (ma_62 (j := 0) (by decide)).trans (congrArg some (hp.2 0 hM))
          have st : zev r i_X6_fits 77 [some (.ref (r.1 + 49)), some (.int (nI j)), some (.int a.1), some (.int a.2), some (.int 1)] [] (zmk r c c (c) (I') (J') Q N (A') U V X ((H, (zNw X S).2)) t) = zev r i_X6_fits 77 [some (.ref (r.1 + 49)), some (.int (nI j)), some (.int (yGf C N.2.2.1 (Q (13 + j)) b a p).1), some (.int (yGf C N.2.2.1 (Q (13 + j)) b a p).2), some (.int (match l.find? (fun q => decide q.Nodup) with | some _ => 1 | none => 0))] [] (zmk r c c (c) (I') (J') Q N (A') U V X ((H', (zNw X S).2)) t) := by
            refine (E_X6_fits_77 ..).trans ?_
            unfold yGf
            simp only [i01, if_false, mo_49, mg_49_0, mg_49_1, mg_49_2, mg_49_3, mg_49_4, mg_49_5, mg_49_6, mg_49_7, mg_49_8, mg_49_9, mg_49_10, mg_49_11, mg_49_12, mg_49_13, mg_49_14, mg_49_15, mg_49_16, mg_49_17, mg_49_18, mg_49_19, mg_49_20, mg_49_21, mg_49_22, mg_49_23, mg_49_24, mg_49_25, if_true, ef, zcI_some]
            by_cases y : yFt C N.2.2.1 (Q (13 + j)) p b = true
            · simp only [y, if_true, i01, if_false, z0, Option.bind_some, en, zcI_some]
              by_cases y1 : a.1 = 0
              · simp only [y1, if_true]
                rfl
              · by_cases y2 : a.2 = nI (p.getD 0 0)
                · simp only [y1, y2, if_true, if_false]
                  rfl
                · simp only [y1, y2, if_false]
                  rfl
            · simp only [y, if_false, if_true, en, zcI_some, Bool.false_eq_true]
              rfl
          refine ⟨fun z hz => ?_, fun hz => ?_⟩
          · rw [hz] at st
            exact ⟨st, hn' z hz⟩
          · rw [hz] at st
            exact st) (0, -9) H0 trivial h0
        rw [hT] at e2
        refine ⟨(H1, (zNw X S).2), ?_⟩
        have ew := m_whens (r := r) (c0 := c) (c1 := c) (c2 := c) (I := I') (J := J') (Q := Q) (N := N) (A := A') (U := U) (V := V) (S := S) (t := t) hj hm s2 s3
        rw [hw] at ew
        have f1 := f0 c c c I' J' Q N A' V t
        simp only [E_X6_fits_0, m_row, e, i01, if_false, zcI_some, mo_49, mg_49_0, mg_49_1, mg_49_2, mg_49_3, mg_49_4, mg_49_5, mg_49_6, mg_49_7, mg_49_8, mg_49_9, mg_49_10, mg_49_11, mg_49_12, mg_49_13, mg_49_14, mg_49_15, mg_49_16, mg_49_17, mg_49_18, mg_49_19, mg_49_20, mg_49_21, mg_49_22, mg_49_23, mg_49_24, mg_49_25, Option.bind_some, mv.2.1, m0, if_true, ma_55 hj, s2, npm, show ¬ (2 : Int32) = 0 by decide, er0, ew, f1, zcV_some]
        refine e2.trans ?_
        refine (E_X6_fits_77 ..).trans ?_
        rw [if_pos rfl]
        simp only [mp_49_11, mp_49_12, mp_49_13, Option.bind_some]
      obtain ⟨S', e2⟩ := e2
      refine both e1 e2 (st_mk (C := C) ?_ t1 t2)
      have iv2 := iv_tell T.2 iv
      obtain ⟨k', hC', mv', to', rest⟩ := iv2
      obtain ⟨b1, b2, b3, b4, b5⟩ := to'
      exact ⟨k', hC', mv', ⟨b1, b2, by rw [va_ne (show (0 : Nat) ≠ 1 by decide), va_ne (show (0 : Nat) ≠ 1 by decide), va_same, va_same], by rw [va_same, va_same], b5⟩, rest⟩
  · have er1 : ¬ nI m - nI m / 2 * 2 = 0 := by rw [er]; exact fun q => o ((nI_eq (b := 0) (by omega) (by decide)).mp q)
    refine both (v := (-3)) (h1 := (zmk r c c c2 (va_up I 1 (nI 5)) J (va_up Q 0 (upd (Q 0) 5 (Q 0 5 + 1))) N A U V X S t)) (h2 := (zmk r c c c2 (va_up I 1 (nI 5)) J (va_up Q 0 (upd (Q 0) 5 (Q 0 5 + 1))) N A (va_up U 3 (nI 5)) V (va_up X 9 (upd (X 9) 5 (X 9 5 + 1))) S t)) ?_ ?_ (st_mk (iv_found 5 iv (by decide) (by decide)) t1 t2)
    · simp only [E_X5_fits_0, mo_0, mg_0_0, mg_0_1, mg_0_2, mg_0_3, mg_0_4, mg_0_5, mg_0_6, mg_0_7, mg_0_8, mg_0_9, mg_0_10, mg_0_11, if_true, k_rowAt, e, i01, if_false, zcQ_ref, cj, (hC ..).2.2.1, Option.bind_some, m0, mo_r hj, wr_miss hj, s1, nm1, zcI_some, mgs_r hj, show ¬ (2 : Int32) = 0 by decide, er1, k_f5]
    · simp only [E_X6_fits_0, m_row, e, i01, if_false, zcI_some, mo_49, mg_49_0, mg_49_1, mg_49_2, mg_49_3, mg_49_4, mg_49_5, mg_49_6, mg_49_7, mg_49_8, mg_49_9, mg_49_10, mg_49_11, mg_49_12, mg_49_13, mg_49_14, mg_49_15, mg_49_16, mg_49_17, mg_49_18, mg_49_19, mg_49_20, mg_49_21, mg_49_22, mg_49_23, mg_49_24, mg_49_25, Option.bind_some, mv.2.1, m0, if_true, ma_55 hj, s2, npm, show ¬ (2 : Int32) = 0 by decide, er1, m_f5]
end FITS
