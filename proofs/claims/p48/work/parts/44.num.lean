/-! HOW MUCH: what is so of the numbers -/
theorem i32_cancel {a b c : Int32} (h : a + c = b + c) : a = b := by
  have := congrArg (fun z => z - c) h
  rwa [Int32.add_sub_cancel, Int32.add_sub_cancel] at this
section NUM
variable {C : zCs} {H L : zA}
theorem sSu_but {m q : Nat} (hq : q < C.2.1) (h6 : C.2.1 ≤ 6) (w : Int32) : sSu C H L m w (-9) = sSu C H L m w (nI q) + (if sBes C H q m w = 0 then 0 else sWk C L q m) := by
  unfold sSu
  rw [zfd_acc (op := fun a b => a + b) Int32.add_assoc (fun a => by simp) Int32.add_comm, zfd_acc (op := fun a b => a + b) Int32.add_assoc (fun a => by simp) Int32.add_comm (q := fun k => if nI k = nI q then 0 else if sBes C H k m w = 0 then 0 else sWk C L k m), Int32.add_assoc]
  congr 1
  have e1 : zfd (fun a k => a + (if nI k = (-9 : Int32) then 0 else if sBes C H k m w = 0 then 0 else sWk C L k m)) 0 C.2.1 0 = ySu (fun k => (if nI k = nI q then 0 else if sBes C H k m w = 0 then 0 else sWk C L k m) + (if k = q then (if sBes C H q m w = 0 then 0 else sWk C L q m) else 0)) C.2.1 := zfd_congr fun s k _ hk => by
    rw [if_neg (nI_n9 (show k < 2 ^ 31 by omega))]
    dsimp only
    by_cases e : k = q
    · subst e
      rw [if_pos rfl, if_pos rfl, Int32.zero_add]
    · rw [if_neg (fun z => e ((nI_eq (by omega) (by omega)).mp z)), if_neg e, Int32.add_zero]
  rw [e1, su_add]
  congr 1
  rw [su_one hq fun k hk hn => if_neg hn, if_pos rfl]
theorem lim_one {m : Nat} {w b : Int32} (h : ∃ x : Nat, x ≤ 94 ∧ sSu C H L m w b = nI x + -1) (hi : ¬ sIn C H m w = 0) : ∃ x : Nat, x ≤ 94 ∧ sSu C H L m w b = nI x + -1 ∧ sWo C H L m w b = nI (if C.2.2.2.1 m = 5 then 2 * (x - 1) else x - 1) := by
  obtain ⟨x, hx, ex⟩ := h
  refine ⟨x, hx, ex, ?_⟩
  unfold sWo
  rw [if_neg hi]
  have : (if sSu C H L m w b < 0 then (0 : Int32) else sSu C H L m w b) = nI (x - 1) := by
    rw [ex]
    cases x with
    | zero => decide
    | succ x => rw [pk_m1, if_neg (nI_pos (by omega)), Nat.add_sub_cancel]
  rw [this]
  by_cases c : C.2.2.2.1 m = 5
  · rw [if_pos c, if_pos c, show (2 : Int32) = nI 2 from rfl, pk_mul]
  · rw [if_neg c, if_neg c]
/-- without one it is no more -/
theorem sWo_less (k : zCk C) (l : zLk C L) (v : zVd C H) {m q : Nat} (hm : m < C.2.1) (hq : q < C.2.1) (w : Int32) : ¬ sWo C H L m w (-9) - sWo C H L m w (nI q) < 0 := by
  by_cases hi : sIn C H m w = 0
  · unfold sWo
    rw [if_pos hi, if_pos hi]
    decide
  · obtain ⟨j, hj, ej⟩ := (v m hm).resolve_left (in_hangs hi)
    obtain ⟨x, hx, ex, wx⟩ := lim_one (lim_sSu k l hm hj ej w (-9)) hi
    obtain ⟨y, hy, ey, wy⟩ := lim_one (lim_sSu k l hm hj ej w (nI q)) hi
    have e := sSu_but (H := H) (L := L) (m := m) hq k.2.1 w
    have : ∃ t : Nat, t ≤ 15 ∧ (if sBes C H q m w = 0 then 0 else sWk C L q m) = nI t := by
      split
      · exact ⟨0, by decide, rfl⟩
      · exact lim_sWk l hq hm
    obtain ⟨t, ht, et⟩ := this
    have hyx : y ≤ x := by
      rw [et, ex, ey, Int32.add_assoc, Int32.add_comm (-1), ← Int32.add_assoc, nI_add] at e
      have := i32_cancel e
      have := (nI_eq (by omega) (by omega)).mp this
      omega
    rw [wx, wy]
    by_cases c : C.2.2.2.1 m = 5
    · rw [if_pos c, if_pos c, pk_sub (by omega)]
      exact nI_pos (by omega)
    · rw [if_neg c, if_neg c, pk_sub (by omega)]
      exact nI_pos (by omega)
/-- a closer bound: 146 for each -/
theorem lim_sSu2 (k : zCk C) (l : zLk C L) {m : Nat} (hm : m < C.2.1) {j : Nat} (hj : j < C.1) (e : H m = nI j) (w b : Int32) : ∃ x, x ≤ 79 ∧ sSu C H L m w b = nI x + -1 := by
  have k1 := k.1
  have k2 := k.2.1
  have := zfd_inv (f := fun a q => a + (if nI q = b then 0 else if sBes C H q m w = 0 then 0 else sWk C L q m)) (fun i (a : Int32) => ∃ x, x ≤ 4 + 15 * (if m < i then i - 1 else i) ∧ a = nI x + -1) (j := 0) (n := C.2.1) (s := sPw (C.2.2.1 (H m).toNatClampNeg)) (by
    rw [e, nI_clamp (by omega)]
    obtain ⟨p, hp, ep⟩ := k.2.2.2.1 j hj
    rw [ep]
    have : ∀ p, p < 5 → ∃ x, x < 5 ∧ sPw (nI p) = nI x + -1 := by decide +kernel
    obtain ⟨x, hx, ex⟩ := this p hp
    exact ⟨x, by omega, ex⟩) (fun a i _ hi ⟨x, hx, ex⟩ => by
    have : ∃ y, y ≤ (if i = m then 0 else 15) ∧ (if nI i = b then 0 else if sBes C H i m w = 0 then 0 else sWk C L i m) = nI y := by
      by_cases em : i = m
      · rw [if_pos em]
        refine ⟨0, Nat.le_refl _, ?_⟩
        rw [em, sBes_self, if_pos rfl, ite_self]
        rfl
      · rw [if_neg em]
        split
        · exact ⟨0, Nat.zero_le _, rfl⟩
        · split
          · exact ⟨0, Nat.zero_le _, rfl⟩
          · exact lim_sWk l (by omega) hm
    obtain ⟨y, hy, ey⟩ := this
    refine ⟨x + y, ?_, ?_⟩
    · split at hx <;> split at hy <;> split <;> omega
    · rw [ey, ex, Int32.add_assoc, Int32.add_comm (-1), ← Int32.add_assoc, nI_add])
  obtain ⟨x, hx, ex⟩ := this
  rw [Nat.zero_add, if_pos hm] at hx
  exact ⟨x, by omega, ex⟩
theorem lim_sWo2 (k : zCk C) (l : zLk C L) (v : zVd C H) {m : Nat} (hm : m < C.2.1) (w b : Int32) : ∃ x, x ≤ 160 ∧ sWo C H L m w b = nI x := by
  by_cases hi : sIn C H m w = 0
  · unfold sWo
    rw [if_pos hi]
    exact ⟨0, by decide, rfl⟩
  · obtain ⟨j, hj, ej⟩ := (v m hm).resolve_left (in_hangs hi)
    obtain ⟨x0, hx0, ex0⟩ := lim_sSu2 k l hm hj ej w b
    obtain ⟨x, hx, ex, wx⟩ := lim_one (lim_sSu k l hm hj ej w b) hi
    have : x = x0 := by
      have := i32_cancel (ex.symm.trans ex0)
      exact (nI_eq (by omega) (by omega)).mp this
    subst this
    rw [wx]
    split
    · exact ⟨_, by omega, rfl⟩
    · exact ⟨_, by omega, rfl⟩
theorem lim_sAll2 (k : zCk C) (l : zLk C L) (v : zVd C H) (w : Int32) : ∃ x, x ≤ 960 ∧ sAll C H L w = nI x := by
  have k2 := k.2.1
  have := zfd_inv (f := fun a m => a + sWo C H L m w (-9)) (fun i (a : Int32) => ∃ x, x ≤ 160 * i ∧ a = nI x) (j := 0) (n := C.2.1) (s := 0) ⟨0, by decide, rfl⟩ (fun a i _ hi ⟨x, hx, ex⟩ => by
    obtain ⟨y, hy, ey⟩ := lim_sWo2 k l v (show i < C.2.1 by omega) w (-9)
    exact ⟨x + y, by omega, by rw [ey, ex, nI_add]⟩)
  obtain ⟨x, hx, ex⟩ := this
  exact ⟨x, by omega, ex⟩
theorem sub_sub_self32 (a b : Int32) : a - (a - b) = b := by
  refine i32_cancel (c := a - b) ?_
  rw [Int32.sub_add_cancel, Int32.add_comm, Int32.sub_add_cancel]
/-- a change brings -900 at least -/
theorem gain_lim {a b : Nat} (ha : a ≤ 960) (hb : b ≤ 960) : ¬ 100 + nI a - nI b < -900 := by
  intro q
  have h1 := Int32.lt_iff_toInt_lt.mp q
  rw [show (100 : Int32) = nI 100 from rfl, nI_add, pk_sub_toInt (by omega) (by omega), show (-900 : Int32).toInt = -900 by decide] at h1
  omega
end NUM
