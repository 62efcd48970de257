/-! BERTHS: their telling methods run -/
section TELL
variable {r : zE} {x c : Nat} {C : zCs} {F : zBr → zH} {B : zBr}
theorem nI_lt6 {C : zCs} (k : zCk C) {j : Nat} (h : j < C.2.1) : nI j < nI C.2.1 := nI_lt h (by have := k.2.1; omega)
theorem nI_nlt6 {C : zCs} (k : zCk C) : ¬ nI C.2.1 < nI C.2.1 := nI_nlt (Nat.le_refl _) (by have := k.2.1; omega)
theorem b_in (b : zBx r x c C F) (k : zCk C) {m : Nat} (hm : m < C.2.1) (w : Int32) : zev r i_X0_isIn 0 [some (.ref x), some (.int (nI m)), some (.int w)] [] (F B) = some (some (.int (sIn C B.1 m w)), F B) := by
  obtain ⟨⟨-, -, -, -, -, v1, -, -, -, v2, -⟩, -, g0, g1, -, -, -, r1, -⟩ := b B
  have h6 : m < 6 := by have := k.2.1; omega
  simp only [E_X0_isIn_0, g0, g1, r1 m h6, Option.bind_some, v1, v2 m hm, sIn]
  repeat' split
  all_goals rfl
theorem b_hangs (b : zBx r x c C F) {m : Nat} (hm : m < 6) : zev r i_X0_hangs 0 [some (.ref x), some (.int (nI m))] [] (F B) = some (some (.int (if B.1 m = -9 then 0 else 1)), F B) := by
  obtain ⟨-, -, -, g1, -, -, -, r1, -⟩ := b B
  simp only [E_X0_hangs_0, g1, r1 m hm, Option.bind_some]
  repeat' split
  all_goals rfl
theorem b_free (b : zBx r x c C F) (k : zCk C) (i : Int32) : zev r i_X0_isFree 0 [some (.ref x), some (.int i)] [] (F B) = some (some (.int (if zhk C.1 i = 0 then 0 else if B.2.1 i.toNatClampNeg = -9 then 1 else 0)), F B) := by
  obtain ⟨v, -, g0, -, g2, -, -, -, r2, -⟩ := b B
  have k1 := k.1
  simp only [E_X0_isFree_0, g0, v.1, Option.bind_some, if_true, cr_hook v, zcI_some]
  rcases zhk_cases C.1 (by omega) i with e | ⟨e, j, hj, rfl⟩
  · simp only [e, if_true]
  · simp only [e, i01, if_false, g2, r2 j (by omega), Option.bind_some, nI_clamp (show j < 2 ^ 31 by omega)]
    repeat' split
    all_goals rfl
theorem b_bit (b : zBx r x c C F) (k : zCk C) (y w : Int32) : zev r i_X0_bitOfWhoIsInAt 0 [some (.ref x), some (.int y), some (.int w), none] [] (F B) = some (some (.int (sAt C B.1 B.2.1 y w fun k => (1 : Int32) <<< (nI k &&& 31))), F B) := by
  obtain ⟨v, o, g0, -, g2, -, -, -, r2, -⟩ := id (b B)
  have k1 := k.1
  have k2 := k.2.1
  simp only [E_X0_bitOfWhoIsInAt_0, g0, v.1, o, Option.bind_some, if_true, cr_hook v, zcI_some, sAt]
  rcases zhk_cases C.1 (by omega) y with e | ⟨e, j, hj, rfl⟩
  · simp only [e, if_true]
  · simp only [e, i01, if_false, g2, r2 j (by omega), Option.bind_some, nI_clamp (show j < 2 ^ 31 by omega), v.1, if_true, cr_man v, zcI_some]
    rcases zhk_cases C.2.1 (by omega) (B.2.1 j) with e2 | ⟨e2, m, hm, e3⟩
    · simp only [e2, if_true]
    · rw [e3] at e2
      simp only [e2, e3, i01, if_false, o, if_true, b_in b k hm, zcI_some, nI_clamp (show m < 2 ^ 31 by omega)]
      repeat' split
      all_goals rfl
theorem b_neigh (b : zBx r x c C F) (k : zCk C) (g : zCG C B.1 B.2.1) {m : Nat} (hm : m < C.2.1) (w : Int32) : zev r i_X0_neighbourBits 0 [some (.ref x), some (.int (nI m)), some (.int w)] [] (F B) = some (some (.int (sBe C B.1 m w)), F B) := by
  obtain ⟨v, o, g0, g1, g2, -, -, r1, -⟩ := id (b B)
  have h6 : m < 6 := by have := k.2.1; omega
  simp only [E_X0_neighbourBits_0, o, if_true, b_hangs b h6, zcI_some]
  by_cases e : B.1 m = -9
  · simp only [e, if_true]
    have : sBe C B.1 m w = 0 := by
      refine zfd_zero (op := fun a b => a ||| b) (fun a => by simp) fun k _ _ => ?_
      unfold sBes
      rw [if_pos e, if_pos rfl]
    rw [this]
  · simp only [e, if_false, i01, o, if_true, g1, r1 m h6, Option.bind_some, b_bit b k, zcI_some, sBe_at g k hm w e]
theorem sAbs : ∀ a, a < 10 → ∀ b, b < 10 → (if 0 ≤ nI a - nI b then nI a - nI b else 0 - (nI a - nI b)) = (if nI a < nI b then nI b - nI a else nI a - nI b) := by decide +kernel
theorem b_wfrom (b : zBx r x c C F) (k : zCk C) (E : zEk r) (l : zLk C B.2.2.1) {m : Nat} (hm : m < C.2.1) (y w : Int32) : zev r i_X0_wakingsFrom 0 [some (.ref x), some (.int y), some (.int (nI m)), some (.int w), none, none] [] (F B) = some (some (.int (sAt C B.1 B.2.1 y w fun k => sWk C B.2.2.1 k m)), F B) := by
  obtain ⟨v, o, g0, -, g2, g3, -, -, r2, r3, -⟩ := id (b B)
  obtain ⟨-, -, -, -, v1, -, -, -, v2, -⟩ := id v
  have k1 := k.1
  have k2 := k.2.1
  simp only [E_X0_wakingsFrom_0, g0, v.1, o, Option.bind_some, if_true, cr_hook v, zcI_some, sAt]
  rcases zhk_cases C.1 (by omega) y with e | ⟨e, j, hj, rfl⟩
  · simp only [e, if_true]
  · simp only [e, i01, if_false, g2, r2 j (by omega), Option.bind_some, nI_clamp (show j < 2 ^ 31 by omega), v.1, if_true, cr_man v, zcI_some]
    rcases zhk_cases C.2.1 (by omega) (B.2.1 j) with e2 | ⟨e2, q, hq, e3⟩
    · simp only [e2, if_true]
    · rw [e3] at e2
      simp only [e2, e3, i01, if_false, o, if_true, b_in b k hq, zcI_some, nI_clamp (show q < 2 ^ 31 by omega)]
      obtain ⟨a1, ha1, ea1⟩ := l m hm
      obtain ⟨a2, ha2, ea2⟩ := l q hq
      by_cases e4 : sIn C B.1 q w = 0
      · simp only [e4, if_true]
      · simp only [e4, if_false, v1, v2 q hq, v2 m hm, E_X0_wakingsFrom_77, g3, r3 m (by omega), r3 q (by omega), g0, v.1, if_true, cr_bulk v k E hm, cr_bulk v k E hq, zcI_some, Option.bind_some, i01, if_false, sWk, ea1, ea2, sAbs a1 ha1 a2 ha2]
        have e5 : ∀ s p q z : Int32, s + p + q + z = s + q + p + z := fun s p q z => by rw [Int32.add_assoc s p q, Int32.add_comm p q, ← Int32.add_assoc]
        by_cases c1 : C.2.2.2.1 q = 2
        · by_cases c2 : C.2.2.2.1 m = 3
          · simp only [c1, c2, if_true]; rw [e5]
          · simp only [c1, c2, if_true, if_false]; rw [e5]
        · simp only [c1, if_false]; rw [e5]
theorem b_wak (b : zBx r x c C F) (k : zCk C) (E : zEk r) (l : zLk C B.2.2.1) (g : zCG C B.1 B.2.1) {m : Nat} (hm : m < C.2.1) (w : Int32) : zev r i_X0_wakings 0 [some (.ref x), some (.int (nI m)), some (.int w), none, none] [] (F B) = some (some (.int (sWo C B.1 B.2.2.1 m w (-9))), F B) := by
  obtain ⟨v, o, g0, g1, g2, -, -, r1, -⟩ := id (b B)
  obtain ⟨-, -, -, -, v1, -, -, -, v2, -⟩ := id v
  have h6 : m < 6 := by have := k.2.1; omega
  simp only [E_X0_wakings_0, o, if_true, b_in b k hm, zcI_some, sWo]
  by_cases e : sIn C B.1 m w = 0
  · simp only [e, if_true]
  · have e2 : ¬ B.1 m = -9 := fun q => e (by unfold sIn; rw [if_pos q])
    obtain ⟨j, hj, ej, -⟩ := (g.1 m hm).resolve_left e2
    have k1 := k.1
    simp only [e, if_false, o, g0, g1, r1 m h6, Option.bind_some, v.1, if_true, sSu_at g k hm w e2, ej, cr_wakes v k E hj, b_wfrom b k E l hm, zcI_some, v1, v2 m hm, nI_clamp (show j < 2 ^ 31 by omega), Int32.add_assoc]
    have e3 : ∀ z : Int32, (if 0 < z then z else 0) = (if z < 0 then 0 else z) := fun z => by
      by_cases c1 : z < 0
      · rw [if_pos c1, if_neg (Int32.lt_asymm c1)]
      · by_cases c2 : 0 < z
        · rw [if_pos c2, if_neg c1]
        · rw [if_neg c2, if_neg c1]
          exact Int32.le_antisymm (Int32.not_lt.mp c1) (Int32.not_lt.mp c2)
    simp only [e3]
    split <;> rfl
theorem b_all (b : zBx r x c C F) (k : zCk C) (E : zEk r) (l : zLk C B.2.2.1) (g : zCG C B.1 B.2.1) (w : Int32) : zev r i_X0_allWakings 0 [some (.ref x), some (.int w), none, none] [] (F B) = some (some (.int (sAll C B.1 B.2.2.1 w)), F B) := by
  obtain ⟨v, o, g0, -⟩ := id (b B)
  obtain ⟨-, -, v0, -⟩ := id v
  rw [E_X0_allWakings_0]
  refine zloop (fun j (a : Int32) => zev r i_X0_allWakings 4 [some (.ref x), some (.int w), some (.int a), some (.int (nI j))] [] (F B)) (fun a => some (some (.int a), F B)) _ C.2.1 (fun j a hj => ?_) (fun a => ?_) 0
  · refine (E_X0_allWakings_4 ..).trans ?_
    simp only [g0, v0, Option.bind_some, if_pos (nI_lt6 k hj), o, if_true, b_wak b k E l g hj, zcI_some, nI_1]
  · refine (E_X0_allWakings_4 ..).trans ?_
    simp only [g0, v0, Option.bind_some, if_neg (nI_nlt6 k)]
theorem b_most (b : zBx r x c C F) (k : zCk C) (E : zEk r) (l : zLk C B.2.2.1) (g : zCG C B.1 B.2.1) (w : Int32) : zev r i_X0_mostWakings 0 [some (.ref x), some (.int w), none, none] [] (F B) = some (some (.int (sMost C B.1 B.2.2.1 w)), F B) := by
  obtain ⟨v, o, g0, -⟩ := id (b B)
  obtain ⟨-, -, v0, -⟩ := id v
  rw [E_X0_mostWakings_0]
  refine zloop (fun j (a : Int32) => zev r i_X0_mostWakings 4 [some (.ref x), some (.int w), some (.int a), some (.int (nI j))] [] (F B)) (fun a => some (some (.int a), F B)) _ C.2.1 (fun j a hj => ?_) (fun a => ?_) 0
  · refine (E_X0_mostWakings_4 ..).trans ?_
    simp only [g0, v0, Option.bind_some, if_pos (nI_lt6 k hj), o, if_true, b_wak b k E l g hj, zcI_some, nI_1]
  · refine (E_X0_mostWakings_4 ..).trans ?_
    simp only [g0, v0, Option.bind_some, if_neg (nI_nlt6 k)]
theorem b_many (b : zBx r x c C F) (k : zCk C) (w : Int32) : zev r i_X0_howManyIn 0 [some (.ref x), some (.int w), none, none] [] (F B) = some (some (.int (sMany C B.1 w)), F B) := by
  obtain ⟨v, o, g0, -⟩ := id (b B)
  obtain ⟨-, -, v0, -⟩ := id v
  rw [E_X0_howManyIn_0]
  refine zloop (fun j (a : Int32) => zev r i_X0_howManyIn 4 [some (.ref x), some (.int w), some (.int a), some (.int (nI j))] [] (F B)) (fun a => some (some (.int a), F B)) _ C.2.1 (fun j a hj => ?_) (fun a => ?_) 0
  · refine (E_X0_howManyIn_4 ..).trans ?_
    simp only [g0, v0, Option.bind_some, if_pos (nI_lt6 k hj), o, if_true, b_in b k hj, zcI_some, nI_1]
    split <;> rfl
  · refine (E_X0_howManyIn_4 ..).trans ?_
    simp only [g0, v0, Option.bind_some, if_neg (nI_nlt6 k)]
def sTired (C : zCs) (T : zA) : Int32 := zfd (fun a m => a + T m) 0 C.2.1 0
theorem b_tired (b : zBx r x c C F) (k : zCk C) : zev r i_X0_tiredTogether 0 [some (.ref x), none, none] [] (F B) = some (some (.int (sTired C B.2.2.2)), F B) := by
  obtain ⟨v, o, g0, -, -, -, g4, -, -, -, r4, -⟩ := id (b B)
  obtain ⟨-, -, v0, -⟩ := id v
  have k2 := k.2.1
  rw [E_X0_tiredTogether_0]
  refine zloop (fun j (a : Int32) => zev r i_X0_tiredTogether 4 [some (.ref x), some (.int a), some (.int (nI j))] [] (F B)) (fun a => some (some (.int a), F B)) _ C.2.1 (fun j a hj => ?_) (fun a => ?_) 0
  · refine (E_X0_tiredTogether_4 ..).trans ?_
    simp only [g0, v0, Option.bind_some, if_pos (nI_lt6 k hj), g4, r4 j (by omega), nI_1]
  · refine (E_X0_tiredTogether_4 ..).trans ?_
    simp only [g0, v0, Option.bind_some, if_neg (nI_nlt6 k)]
def sMan (C : zCs) (H L T : zA) (m : Nat) (i : Int32) : Int32 := if i = 0 then C.2.2.2.1 m else if i = 1 then L m else if i = 2 then C.2.2.2.2.1 m else if i = 3 then C.2.2.2.2.2 m else if i = 4 then H m else T m
theorem b_man (b : zBx r x c C F) (k : zCk C) {m : Nat} (hm : m < C.2.1) (i : Int32) : zev r i_X0_manDetail 0 [some (.ref x), some (.int (nI m)), some (.int i)] [] (F B) = some (some (.int (sMan C B.1 B.2.2.1 B.2.2.2 m i)), F B) := by
  obtain ⟨v, o, g0, g1, -, g3, g4, r1, -, r3, r4, -⟩ := id (b B)
  obtain ⟨-, -, -, -, v1, v2, v3, -, v4, v5, v6⟩ := id v
  have h6 : m < 6 := by have := k.2.1; omega
  simp only [E_X0_manDetail_0, g0, g1, g3, g4, r1 m h6, r3 m h6, r4 m h6, v1, v2, v3, v4 m hm, v5 m hm, v6 m hm, Option.bind_some, sMan]
  repeat' split
  all_goals rfl
theorem b_hook (b : zBx r x c C F) (k : zCk C) {j : Nat} (hj : j < C.1) (i : Int32) : zev r i_X0_hookDetail 0 [some (.ref x), some (.int (nI j)), some (.int i)] [] (F B) = some (some (.int (if i = 0 then C.2.2.1 j else B.2.1 j)), F B) := by
  obtain ⟨v, o, g0, g1, g2, g3, g4, r1, r2, r3, r4, -⟩ := id (b B)
  obtain ⟨-, -, -, v1, -, -, -, v4, -⟩ := id v
  have h6 : j < 7 := by have := k.1; omega
  simp only [E_X0_hookDetail_0, g0, g2, r2 j h6, v1, v4 j hj, Option.bind_some]
  repeat' split
  all_goals rfl
end TELL
