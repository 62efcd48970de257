/-! THE LAW'S OWN METHODS; how its walk is told -/
/-- the law comes to its end with 1, in its room -/
def zOK (q : Option zRes) : Prop := ∃ g, q = some (some (.int 1), g) ∧ g.length ≤ 600000 ∧ zhs g ≤ 7302250
def zSx (r : zE) (C : zCs) (d : Nat) (M : Nat → zDk) (K : Nat → Option (Nat × (Nat → zDk))) (W Tx : Nat → Option (List Int32)) (Ga Va : zA) (n : Nat) (h : zH) : Prop := ∃ ta tu tl, zSt r C d M K W Tx ta tu tl Ga Va n h
theorem nl0 : nI 0 = 0 := rfl
theorem nl1 : nI 1 = 1 := rfl
theorem nl2 : nI 2 = 2 := rfl
theorem nl3 : nI 3 = 3 := rfl
theorem nl4 : nI 4 = 4 := rfl
theorem nl5 : nI 5 = 5 := rfl
theorem nl60 : nI 60 = 60 := rfl
section HELP
variable {r : zE} {C : zCs} {d : Nat} {M : Nat → zDk} {K : Nat → Option (Nat × (Nat → zDk))} {W Tx : Nat → Option (List Int32)} {ta : Int32} {tu tl : Int64} {Ga Va : zA} {n : Nat} {h : zH}
theorem sx_of (st : zSt r C d M K W Tx ta tu tl Ga Va n h) : zSx r C d M K W Tx Ga Va n h := ⟨ta, tu, tl, st⟩
theorem w_told {m i : Nat} (hm : m < C.2.1) (hi : i < 6) (st : zSt r C d M K W Tx ta tu tl Ga Va n h) : ∃ h', zev r i_L_told 0 [some (.ref (r.1 + 0)), some (.int (nI m)), some (.int (nI i))] [] h = some (some (.int (sMan C (M d).1 (M d).2.1 (M d).2.2 m (nI i))), h') ∧ zSx r C d M K W Tx Ga Va n h' := by
  obtain ⟨h1, e1, st1⟩ := ck_man hm hi st
  refine ⟨h1, ?_, sx_of st1⟩
  rw [E_L_told_0]
  simp only [st_ob st, st_ob st1, if_true, e1, zcI_some, ck_asked st1]
theorem w_told4 {m : Nat} (hm : m < C.2.1) (st : zSt r C d M K W Tx ta tu tl Ga Va n h) : ∃ h', zev r i_L_told 0 [some (.ref (r.1 + 0)), some (.int (nI m)), some (.int 4)] [] h = some (some (.int ((M d).1 m)), h') ∧ zSx r C d M K W Tx Ga Va n h' := w_told (i := 4) hm (by decide) st
theorem w_told1 {m : Nat} (hm : m < C.2.1) (st : zSt r C d M K W Tx ta tu tl Ga Va n h) : ∃ h', zev r i_L_told 0 [some (.ref (r.1 + 0)), some (.int (nI m)), some (.int 1)] [] h = some (some (.int ((M d).2.1 m)), h') ∧ zSx r C d M K W Tx Ga Va n h' := w_told (i := 1) hm (by decide) st
theorem w_told2 {m : Nat} (hm : m < C.2.1) (st : zSt r C d M K W Tx ta tu tl Ga Va n h) : ∃ h', zev r i_L_told 0 [some (.ref (r.1 + 0)), some (.int (nI m)), some (.int 2)] [] h = some (some (.int (C.2.2.2.2.1 m)), h') ∧ zSx r C d M K W Tx Ga Va n h' := w_told (i := 2) hm (by decide) st
theorem w_bits (r : zE) (h : zH) (s : Int32) : zev r i_L_bits 0 [some (.int s), none, none] [] h = some (some (.int (yB7 s)), h) := by
  rw [E_L_bits_0]
  refine zloop (fun j (a : Int32) => zev r i_L_bits 4 [some (.int s), some (.int a), some (.int (nI j))] [] h) (fun a => some (some (.int a), h)) (fun a k => a + ((s >>> (nI k &&& 31)) &&& 1)) 7 (fun j a hj => ?_) (fun a => ?_) 0
  · refine (E_L_bits_4 ..).trans ?_
    simp only [if_pos (show nI j < 7 from nI_lt (b := 7) hj (by decide)), nI_1]
  · refine (E_L_bits_4 ..).trans ?_
    simp only [if_neg (show ¬ nI 7 < 7 by decide)]
theorem and_max (v : Int32) : ¬ v &&& 2147483647 < 0 := by
  intro q
  have h1 := Int32.lt_iff_toInt_lt.mp q
  have : (v &&& 2147483647).toInt = ((v &&& 2147483647).toBitVec).toInt := rfl
  rw [this, Int32.toBitVec_and] at h1
  have h2 : (v.toBitVec &&& (2147483647 : Int32).toBitVec).toInt < 0 := h1
  rw [BitVec.toInt_neg_iff, BitVec.toNat_and] at h2
  have h3 : v.toBitVec.toNat &&& (2147483647 : Int32).toBitVec.toNat ≤ (2147483647 : Int32).toBitVec.toNat := Nat.and_le_right
  have h4 : (2147483647 : Int32).toBitVec.toNat = 2147483647 := by decide
  rw [h4] at h2 h3
  omega
theorem w_low (r : zE) (h : zH) (v : Int32) {m : Nat} (h0 : 0 < m) (h31 : m < 2 ^ 31) : ∃ j, j < m ∧ zev r i_L_low 0 [some (.int v), some (.int (nI m))] [] h = some (some (.int (nI j)), h) := by
  obtain ⟨a, ha, e⟩ := nI_of (and_max v)
  refine ⟨a % m, Nat.mod_lt _ h0, ?_⟩
  rw [E_L_low_0, if_neg (nI_ne0 h0 h31), e, pk_rem ha h0 h31]
theorem w_cell {b L : Nat} {xs : Nat → Int32} (hE : zEnv r b L xs) (h : zH) {k : Nat} (hk : k < 100) (hL : L ≤ 260) : ∃ v, zev r i_L_cell 0 [some (.ref b), some (.int (nI k))] [] h = some (some (.int v), h) := by
  obtain ⟨h1, h2, -⟩ := hE
  rw [E_L_cell_0]
  have e1 : zaN r h b = some L := zaN_old h1 h2
  rw [e1, Option.bind_some, nI_of0]
  by_cases c : k < L
  · rw [if_pos (nI_lt c (by omega)), zaI_old h1 h2 c (by omega), Option.bind_some]
    exact ⟨_, rfl⟩
  · rw [if_neg (nI_nlt (by omega) (by omega))]
    exact ⟨_, rfl⟩
end HELP
