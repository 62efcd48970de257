/-! SETS OF NEIGHBOURS: what is so of them -/
theorem zs6_pos : ∀ a b c d e f : Bool, ¬ zs6 a b c d e f < 0 := by decide +kernel
theorem zs6_0 : ∀ a b c d e f : Bool, zs6 a b c d e f = 0 ↔ (a = false ∧ b = false ∧ c = false ∧ d = false ∧ e = false ∧ f = false) := by decide +kernel
theorem zs6_sh : ∀ a b c d e f : Bool, ∀ k, k < 6 → (zs6 a b c d e f >>> (nI k &&& 31)) &&& 1 = if (match k with | 0 => a | 1 => b | 2 => c | 3 => d | 4 => e | _ => f) = true then 1 else 0 := by decide +kernel
theorem zs6_or : ∀ a b c d e f : Bool, ∀ k, k < 6 → zs6 a b c d e f ||| ((1 : Int32) <<< (nI k &&& 31)) = zs6 (a || k == 0) (b || k == 1) (c || k == 2) (d || k == 3) (e || k == 4) (f || k == 5) := by decide +kernel
def yB7 (s : Int32) : Int32 := zfd (fun a k => a + ((s >>> (nI k &&& 31)) &&& 1)) 0 7 0
theorem zs6_b7 : ∀ a b c d e f : Bool, yB7 (zs6 a b c d e f) = zc6 a b c d e f := by decide +kernel
theorem st_pos (p : Nat → Bool) {n : Nat} (h : n ≤ 6) : ¬ ySt p n < 0 := by
  rw [ySt_6 p h, zs6_eq]
  exact zs6_pos _ _ _ _ _ _
theorem st_b7 (p : Nat → Bool) {n : Nat} (h : n ≤ 6) : yB7 (ySt p n) = yCt p n := by
  rw [ySt_6 p h, zs6_eq, zs6_b7, ← zc6_eq (fun k => p k && decide (k < n)), ← yCt_6 p h]
theorem m6 (p : Nat → Bool) (k : Nat) : k < 6 → (match k with | 0 => p 0 | 1 => p 1 | 2 => p 2 | 3 => p 3 | 4 => p 4 | _ => p 5) = p k := by
  intro hk
  match k, hk with
  | 0, _ => rfl
  | 1, _ => rfl
  | 2, _ => rfl
  | 3, _ => rfl
  | 4, _ => rfl
  | 5, _ => rfl
  | k + 6, h => exact absurd h (by omega)
theorem st_sh (p : Nat → Bool) {n k : Nat} (h : n ≤ 6) (hk : k < n) : (ySt p n >>> (nI k &&& 31)) &&& 1 = if p k = true then 1 else 0 := by
  rw [ySt_6 p h, zs6_eq, zs6_sh _ _ _ _ _ _ k (by omega), m6 (fun k => p k && decide (k < n)) k (show k < 6 by omega)]
  simp [hk]
theorem st_0 (p : Nat → Bool) {n : Nat} (h : n ≤ 6) : ySt p n = 0 ↔ ∀ k, k < n → p k = false := by
  rw [ySt_6 p h, zs6_eq, zs6_0]
  constructor
  · rintro ⟨h0, h1, h2, h3, h4, h5⟩ k hk
    have : (p k && decide (k < n)) = false := by
      match k, (show k < 6 by omega) with
      | 0, _ => exact h0
      | 1, _ => exact h1
      | 2, _ => exact h2
      | 3, _ => exact h3
      | 4, _ => exact h4
      | 5, _ => exact h5
      | k + 6, h => exact absurd h (by omega)
    simpa [hk] using this
  · intro hp
    have key : ∀ k, (p k && decide (k < n)) = false := fun k => by
      by_cases c : k < n
      · rw [hp k c]; rfl
      · simp [c]
    exact ⟨key 0, key 1, key 2, key 3, key 4, key 5⟩
theorem st_or (p : Nat → Bool) {n k : Nat} (h : n ≤ 6) (hk : k < n) : ySt p n ||| ((1 : Int32) <<< (nI k &&& 31)) = ySt (fun j => p j || j == k) n := by
  rw [ySt_6 p h, ySt_6 (fun j => p j || j == k) h, zs6_eq, zs6_eq, zs6_or _ _ _ _ _ _ k (by omega)]
  have e : ∀ j, ((p j && decide (j < n)) || k == j) = ((p j || j == k) && decide (j < n)) := fun j => by
    by_cases c : j < n
    · have : (k == j) = (j == k) := by rw [Bool.eq_iff_iff, beq_iff_eq, beq_iff_eq]; exact eq_comm
      simp [c, this]
    · have : (k == j) = false := by rw [beq_eq_false_iff_ne]; omega
      simp [c, this]
  rw [e 0, e 1, e 2, e 3, e 4, e 5]
theorem st_none (n : Nat) : ySt (fun _ => false) n = 0 := zfd_zero (op := fun a b => a ||| b) (fun a => by simp) fun _ _ _ => rfl
/-- counting -/
def yNc (p : Nat → Bool) : Nat → Nat
  | 0 => 0
  | n + 1 => yNc p n + if p n = true then 1 else 0
theorem ct_nc (p : Nat → Bool) : ∀ n : Nat, yCt p n = nI (yNc p n)
  | 0 => rfl
  | n + 1 => by
    have ih := ct_nc p n
    unfold yCt at ih ⊢
    rw [zfd_succ, ih, Nat.zero_add, yNc]
    by_cases c : p n = true
    · rw [if_pos c, if_pos c, nI_1]
    · rw [if_neg c, if_neg c, Nat.add_zero]
theorem nc_le (p : Nat → Bool) : ∀ n : Nat, yNc p n ≤ n
  | 0 => Nat.le_refl _
  | n + 1 => by
    have := nc_le p n
    rw [yNc]
    split <;> omega
theorem nc_zero {p : Nat → Bool} : ∀ {n : Nat}, (∀ k, k < n → p k = false) → yNc p n = 0
  | 0, _ => rfl
  | n + 1, h => by
    rw [yNc, nc_zero (n := n) fun k hk => h k (by omega), h n (by omega)]
    rfl
theorem nc_one {p : Nat → Bool} : ∀ {n : Nat}, (∀ i j, i < n → j < n → p i = true → p j = true → i = j) → yNc p n ≤ 1
  | 0, _ => Nat.zero_le _
  | n + 1, h => by
    rw [yNc]
    by_cases c : p n = true
    · rw [nc_zero fun k hk => by
        cases e : p k with
        | false => rfl
        | true => have := h k n (by omega) (by omega) e c; omega]
      rw [if_pos c]; exact Nat.le_refl _
    · rw [if_neg c]
      exact nc_one fun i j hi hj => h i j (by omega) (by omega)
theorem nc_or {p q1 q2 : Nat → Bool} : ∀ {n : Nat}, (∀ k, k < n → p k = true → q1 k = true ∨ q2 k = true) → yNc p n ≤ yNc q1 n + yNc q2 n
  | 0, _ => Nat.le_refl _
  | n + 1, h => by
    have ih := nc_or (n := n) fun k hk => h k (by omega)
    rw [yNc, yNc, yNc]
    by_cases c : p n = true
    · rcases h n (by omega) c with a | a
      · rw [if_pos c, if_pos a]; omega
      · rw [if_pos c, if_pos a]; omega
    · rw [if_neg c]; omega
section NB
variable {C : zCs} {H : zA}
theorem be_pos (k : zCk C) (m : Nat) (w : Int32) : ¬ sBe C H m w < 0 := by
  rw [sBe_st]; exact st_pos _ k.2.1
theorem be_bit (k : zCk C) {m q : Nat} (hq : q < C.2.1) (w : Int32) : (sBe C H m w >>> (nI q &&& 31)) &&& 1 = if sBes C H q m w = 0 then 0 else 1 := by
  rw [sBe_st, st_sh _ k.2.1 hq]
  by_cases c : sBes C H q m w = 0
  · simp [c]
  · simp [c]
theorem be_0 (k : zCk C) (m : Nat) (w : Int32) : sBe C H m w = 0 ↔ ∀ q, q < C.2.1 → sBes C H q m w = 0 := by
  rw [sBe_st, st_0 _ k.2.1]
  constructor
  · intro h q hq
    have := h q hq
    simpa using this
  · intro h q hq
    simpa using h q hq
theorem bes_ne {q m : Nat} {w : Int32} (h : ¬ sBes C H q m w = 0) : ¬ sIn C H q w = 0 ∧ ¬ H m = -9 ∧ (H q - H m = 1 ∨ H q - H m = -1) := by
  unfold sBes at h
  by_cases c1 : H m = -9
  · rw [if_pos c1] at h; exact absurd rfl h
  · rw [if_neg c1] at h
    by_cases c2 : sIn C H q w = 0
    · rw [if_pos c2] at h; exact absurd rfl h
    · rw [if_neg c2] at h
      refine ⟨c2, c1, ?_⟩
      by_cases c3 : H q - H m = 1
      · exact .inl c3
      · rw [if_neg c3] at h
        by_cases c4 : H q - H m = -1
        · exact .inr c4
        · rw [if_neg c4] at h; exact absurd rfl h
theorem in_hangs {m : Nat} {w : Int32} (h : ¬ sIn C H m w = 0) : ¬ H m = -9 := fun q => h (by unfold sIn; rw [if_pos q])
theorem be_two (k : zCk C) (v : zVI C H) (m : Nat) (w : Int32) : ¬ (2 : Int32) < yB7 (sBe C H m w) := by
  rw [sBe_st, st_b7 _ k.2.1, ct_nc]
  have k2 := k.2.1
  have l := nc_le (fun q => !decide (sBes C H q m w = 0)) C.2.1
  suffices yNc (fun q => !decide (sBes C H q m w = 0)) C.2.1 ≤ 2 from nI_nlt (a := 2) this (by decide)
  have h1 : yNc (fun q => decide (H q - H m = 1 ∧ ¬ H q = -9)) C.2.1 ≤ 1 := nc_one fun i j hi hj a b => by
    simp only [decide_eq_true_eq] at a b
    refine v.2 i j hi hj ?_ a.2
    rw [i32_sub1.mp a.1, i32_sub1.mp b.1]
  have h2 : yNc (fun q => decide (H q - H m = -1 ∧ ¬ H q = -9)) C.2.1 ≤ 1 := nc_one fun i j hi hj a b => by
    simp only [decide_eq_true_eq] at a b
    refine v.2 i j hi hj ?_ a.2
    rw [i32_subm.mp a.1, i32_subm.mp b.1]
  have h3 := nc_or (p := fun q => !decide (sBes C H q m w = 0)) (q1 := fun q => decide (H q - H m = 1 ∧ ¬ H q = -9)) (q2 := fun q => decide (H q - H m = -1 ∧ ¬ H q = -9)) (n := C.2.1) fun q hq a => by
    have c : ¬ sBes C H q m w = 0 := by simpa using a
    obtain ⟨c1, c2, c3⟩ := bes_ne c
    rcases c3 with z | z
    · left; simp [z, in_hangs c1]
    · right; simp [z, in_hangs c1]
  omega
end NB
