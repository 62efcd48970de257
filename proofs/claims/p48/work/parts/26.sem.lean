/-! MEANINGS: what is told of a deck, as formulas; the crew's and the berths' methods -/
theorem zloop {α β : Type} (F : Nat → α → β) (res : α → β) (f : α → Nat → α) (N : Nat) (hs : ∀ j a, j < N → F j a = F (j + 1) (f a j)) (he : ∀ a, F N a = res a) (a : α) : F 0 a = res (zfd f 0 N a) := by
  suffices H : ∀ n j a, j + n = N → F j a = res (zfd f j n a) from H N 0 a (by omega)
  intro n
  induction n with
  | zero => intro j a e; rw [show j = N by omega, he]; rfl
  | succ n ih => intro j a e; rw [hs j a (by omega), ih (j + 1) (f a j) (by omega)]; rfl
theorem zloopP {α β : Type} (P : Nat → α → Prop) (F : Nat → α → β) (res : α → β) (f : α → Nat → α) (N : Nat) (hs : ∀ j a, j < N → P j a → F j a = F (j + 1) (f a j) ∧ P (j + 1) (f a j)) (he : ∀ a, P N a → F N a = res a) (a : α) (h0 : P 0 a) : F 0 a = res (zfd f 0 N a) ∧ P N (zfd f 0 N a) := by
  suffices H : ∀ n j a, j + n = N → P j a → F j a = res (zfd f j n a) ∧ P N (zfd f j n a) from H N 0 a (by omega) h0
  intro n
  induction n with
  | zero => intro j a e p; have q : j = N := by omega
            subst q; exact ⟨he a p, p⟩
  | succ n ih => intro j a e p; obtain ⟨e1, p1⟩ := hs j a (by omega) p
                 rw [e1]; exact ih (j + 1) (f a j) (by omega) p1
/-- a loop that may end early: `F j = some answer` or goes on -/
theorem zloopS {α β : Type} (P : Nat → α → Prop) (Q : β → Prop) (F : Nat → α → β) (N : Nat) (hs : ∀ j a, j < N → P j a → Q (F j a) ∨ ∃ b, F j a = F (j + 1) b ∧ P (j + 1) b) (he : ∀ a, P N a → Q (F N a)) (a : α) (h0 : P 0 a) : Q (F 0 a) := by
  suffices H : ∀ n j a, j + n = N → P j a → Q (F j a) from H N 0 a (by omega) h0
  intro n
  induction n with
  | zero => intro j a e p; have q : j = N := by omega
            subst q; exact he a p
  | succ n ih => intro j a e p; rcases hs j a (by omega) p with q | ⟨b, e1, p1⟩
                 · exact q
                 · rw [e1]; exact ih (j + 1) b (by omega) p1
abbrev zA : Type := Nat → Int32
/-- hooks, men; places, kinds, watches, messes -/
abbrev zCs : Type := Nat × Nat × zA × zA × zA × zA
/-- a hook's or man's number that is there -/
def zhk (n : Nat) (i : Int32) : Int32 := if i < 0 then 0 else if i < nI n then 1 else 0
theorem zhk_none (n : Nat) : zhk n (-9) = 0 := by
  unfold zhk
  rw [if_pos (by decide)]
theorem zhk_in {n j : Nat} (h : j < n) (hn : n < 2 ^ 31) : zhk n (nI j) = 1 := by
  unfold zhk
  rw [if_neg (nI_pos (by omega)), if_pos (nI_lt h hn)]
theorem zhk_out {n j : Nat} (h : n ≤ j) (hj : j < 2 ^ 31) : zhk n (nI j) = 0 := by
  unfold zhk
  rw [if_neg (nI_pos (by omega)), if_neg (nI_nlt h hj)]
theorem zhk_cases (n : Nat) (hn : n < 2 ^ 31) (i : Int32) : zhk n i = 0 ∨ zhk n i = 1 ∧ ∃ j, j < n ∧ i = nI j := by
  by_cases h : i < 0
  · exact .inl (by unfold zhk; rw [if_pos h])
  · obtain ⟨j, hj, rfl⟩ := nI_of h
    by_cases h2 : j < n
    · exact .inr ⟨zhk_in h2 hn, j, h2, rfl⟩
    · exact .inl (zhk_out (by omega) hj)
theorem i01 : ¬ (1 : Int32) = 0 := by decide
theorem nI_n9 {j : Nat} (h : j < 2 ^ 31) : ¬ nI j = -9 := fun e => nI_pos h (by rw [e]; decide)
def sIn (C : zCs) (H : zA) (m : Nat) (w : Int32) : Int32 := if H m = -9 then 0 else if w = 0 then 1 else if C.2.2.2.2.1 m = w - 1 then 0 else 1
def sBes (C : zCs) (H : zA) (k m : Nat) (w : Int32) : Int32 := if H m = -9 then 0 else if sIn C H k w = 0 then 0 else if H k - H m = 1 then 1 else if H k - H m = -1 then 1 else 0
def sHt (k : Int32) : Int32 := if k = 4 then 2 else if k = 1 then 1 else 0
def sPw (p : Int32) : Int32 := if p = 1 then 1 else if p = 2 then 3 else if p = 3 then 2 else if p = 4 then -1 else 0
def sWk (C : zCs) (L : zA) (k m : Nat) : Int32 := (if L m < L k then L k - L m else L m - L k) + sHt (C.2.2.2.1 k) + sHt (C.2.2.2.1 m) + (if C.2.2.2.1 k = 2 then if C.2.2.2.1 m = 3 then 0 else 2 else 0)
def sSu (C : zCs) (H L : zA) (m : Nat) (w b : Int32) : Int32 := zfd (fun a k => a + (if nI k = b then 0 else if sBes C H k m w = 0 then 0 else sWk C L k m)) 0 C.2.1 (sPw (C.2.2.1 (H m).toNatClampNeg))
def sWo (C : zCs) (H L : zA) (m : Nat) (w b : Int32) : Int32 := if sIn C H m w = 0 then 0 else if C.2.2.2.1 m = 5 then 2 * (if sSu C H L m w b < 0 then 0 else sSu C H L m w b) else if sSu C H L m w b < 0 then 0 else sSu C H L m w b
def sAll (C : zCs) (H L : zA) (w : Int32) : Int32 := zfd (fun a m => a + sWo C H L m w (-9)) 0 C.2.1 0
def sMost (C : zCs) (H L : zA) (w : Int32) : Int32 := zfd (fun a m => if a < sWo C H L m w (-9) then sWo C H L m w (-9) else a) 0 C.2.1 0
def sMany (C : zCs) (H : zA) (w : Int32) : Int32 := zfd (fun a m => if sIn C H m w = 0 then a else a + 1) 0 C.2.1 0
def sBe (C : zCs) (H : zA) (m : Nat) (w : Int32) : Int32 := zfd (fun a k => a ||| (if sBes C H k m w = 0 then 0 else (1 : Int32) <<< (nI k &&& 31))) 0 C.2.1 0
def sOf (C : zCs) (m : Nat) (kind : Int32) : Int32 := if C.2.2.2.1 m = kind then 1 else if kind = 1 then if C.2.2.2.1 m = 4 then 1 else 0 else 0
def sTall (C : zCs) : Int32 := zfd (fun a m => if sOf C m 1 = 0 then a else a + 1) 0 C.2.1 0
def sBits (C : zCs) (kind : Int32) : Int32 := zfd (fun a m => if sOf C m kind = 0 then a else a ||| ((1 : Int32) <<< (nI m &&& 31))) 0 C.2.1 0
def sPlans (C : zCs) : Int32 := zfd (fun a m => a * (nI C.1 - nI m)) 0 C.2.1 1
/-- the first man from j on whose hook it is -/
def sWho (H : zA) (v : Int32) : Nat → Nat → Int32
  | _, 0 => -9
  | j, n + 1 => if H j = v then nI j else sWho H v (j + 1) n
/-- a crew's object at c -/
def zCv (r : zE) (c : Nat) (C : zCs) (h : zH) : Prop :=
  zob r h c 1 = true ∧ zgI r h c 1 0 = some (nI C.1) ∧ zgI r h c 1 1 = some (nI C.2.1) ∧ zgR r h c 1 2 = some (c + 1) ∧ zgR r h c 1 3 = some (c + 2) ∧ zgR r h c 1 5 = some (c + 4) ∧ zgR r h c 1 6 = some (c + 5) ∧
  (∀ j, j < C.1 → zaI r h (c + 1) (nI j) = some (C.2.2.1 j)) ∧ (∀ j, j < C.2.1 → zaI r h (c + 2) (nI j) = some (C.2.2.2.1 j)) ∧ (∀ j, j < C.2.1 → zaI r h (c + 4) (nI j) = some (C.2.2.2.2.1 j)) ∧ (∀ j, j < C.2.1 → zaI r h (c + 5) (nI j) = some (C.2.2.2.2.2 j))
def zCk (C : zCs) : Prop := C.1 ≤ 7 ∧ C.2.1 ≤ 6 ∧ C.2.1 ≤ C.1 ∧ (∀ h, h < C.1 → ∃ p, p < 5 ∧ C.2.2.1 h = nI p) ∧ ∀ m, m < C.2.1 → ∃ k, k < 6 ∧ C.2.2.2.1 m = nI k
/-- the class's constant arrays -/
def zEk (r : zE) : Prop := (∀ i, i < 4 → ¬ r.1 ≤ r.2.2 i) ∧ r.2.1 (r.2.2 0) = some (false, 6, zKB) ∧ r.2.1 (r.2.2 1) = some (true, 6, zKL) ∧ r.2.1 (r.2.2 2) = some (true, 5, zPL) ∧ r.2.1 (r.2.2 3) = some (false, 5, zPW)
section CREW
variable {r : zE} {c : Nat} {C : zCs} {h : zH}
theorem cr_hook (v : zCv r c C h) (i : Int32) : zev r i_X1_hasHook 0 [some (.ref c), some (.int i)] [] h = some (some (.int (zhk C.1 i)), h) := by
  obtain ⟨-, e, -⟩ := v
  rw [E_X1_hasHook_0, e]
  simp only [Option.bind_some, zhk]
  repeat' split
  all_goals rfl
theorem cr_man (v : zCv r c C h) (i : Int32) : zev r i_X1_hasMan 0 [some (.ref c), some (.int i)] [] h = some (some (.int (zhk C.2.1 i)), h) := by
  obtain ⟨-, -, e, -⟩ := v
  rw [E_X1_hasMan_0, e]
  simp only [Option.bind_some, zhk]
  repeat' split
  all_goals rfl
theorem cr_plans (v : zCv r c C h) (k : zCk C) : zev r i_X1_planCount 0 [some (.ref c), none, none] [] h = some (some (.int (sPlans C)), h) := by
  obtain ⟨-, e, e2, -⟩ := v
  obtain ⟨k1, k2, -⟩ := k
  rw [E_X1_planCount_0]
  refine zloop (fun j (a : Int32) => zev r i_X1_planCount 4 [some (.ref c), some (.int a), some (.int (nI j))] [] h) (fun a => some (some (.int a), h)) _ C.2.1 (fun j a hj => ?_) (fun a => ?_) 1
  · refine (E_X1_planCount_4 ..).trans ?_
    simp only [e, e2, Option.bind_some, if_pos (nI_lt hj (show C.2.1 < 2 ^ 31 by omega)), nI_1]
  · refine (E_X1_planCount_4 ..).trans ?_
    simp only [e2, Option.bind_some, if_neg (nI_nlt (Nat.le_refl _) (show C.2.1 < 2 ^ 31 by omega))]
theorem cr_of (v : zCv r c C h) {m : Nat} (hm : m < C.2.1) (i : Int32) : zev r i_X1_isOf 0 [some (.ref c), some (.int (nI m)), some (.int i)] [] h = some (some (.int (sOf C m i)), h) := by
  obtain ⟨-, -, -, -, e, -, -, -, e2, -⟩ := v
  simp only [E_X1_isOf_0, e, Option.bind_some, e2 m hm, sOf]
  repeat' split
  all_goals rfl
theorem cr_bits (v : zCv r c C h) (k : zCk C) (i : Int32) : zev r i_X1_bitsOf 0 [some (.ref c), some (.int i), none, none] [] h = some (some (.int (sBits C i)), h) := by
  have v0 := v
  obtain ⟨o, -, e2, -⟩ := v
  obtain ⟨k1, k2, -⟩ := k
  rw [E_X1_bitsOf_0]
  refine zloop (fun j (a : Int32) => zev r i_X1_bitsOf 4 [some (.ref c), some (.int i), some (.int a), some (.int (nI j))] [] h) (fun a => some (some (.int a), h)) _ C.2.1 (fun j a hj => ?_) (fun a => ?_) 0
  · refine (E_X1_bitsOf_4 ..).trans ?_
    simp only [o, e2, Option.bind_some, if_pos (nI_lt hj (show C.2.1 < 2 ^ 31 by omega)), if_true, nI_1, cr_of v0 hj, zcI_some]
    split <;> rfl
  · refine (E_X1_bitsOf_4 ..).trans ?_
    simp only [e2, Option.bind_some, if_neg (nI_nlt (Nat.le_refl _) (show C.2.1 < 2 ^ 31 by omega))]
theorem cr_bulk (v : zCv r c C h) (k : zCk C) (E : zEk r) {m : Nat} (hm : m < C.2.1) : zev r i_X1_bulk 0 [some (.ref c), some (.int (nI m))] [] h = some (some (.int (sHt (C.2.2.2.1 m))), h) := by
  obtain ⟨-, -, -, -, e, -, -, -, e2, -⟩ := v
  obtain ⟨-, -, -, -, k5⟩ := k
  obtain ⟨q, hq, eq⟩ := k5 m hm
  obtain ⟨f1, f2, -⟩ := E
  simp only [E_X1_bulk_0, e, Option.bind_some, e2 m hm, eq, zaI_old (f1 0 (by decide)) f2 hq (by decide)]
  have : ∀ q, q < 6 → zKB q = sHt (nI q) := by decide +kernel
  rw [this q hq]
theorem cr_wakes (v : zCv r c C h) (k : zCk C) (E : zEk r) {j : Nat} (hm : j < C.1) : zev r i_X1_placeWakes 0 [some (.ref c), some (.int (nI j))] [] h = some (some (.int (sPw (C.2.2.1 j))), h) := by
  obtain ⟨-, -, -, e, -, -, -, e2, -⟩ := v
  obtain ⟨-, -, -, k5, -⟩ := k
  obtain ⟨q, hq, eq⟩ := k5 j hm
  obtain ⟨f1, -, -, -, f2⟩ := E
  simp only [E_X1_placeWakes_0, e, Option.bind_some, e2 j hm, eq, zaI_old (f1 3 (by decide)) f2 hq (by decide)]
  have : ∀ q, q < 5 → zPW q = sPw (nI q) := by decide +kernel
  rw [this q hq]
end CREW
