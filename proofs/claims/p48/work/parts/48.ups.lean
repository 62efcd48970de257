/-! GETTING UP: what is so of the order -/
section UPS
variable {C : zCs} {H : zA}
theorem up_perm (C : zCs) (H : zA) (w : Int32) : (yUp C H w).Perm (yMen C H w) := yG_perm rfl
theorem men_nd (C : zCs) (H : zA) (w : Int32) : (yMen C H w).Nodup := List.Pairwise.filter _ List.nodup_range
theorem up_nd (C : zCs) (H : zA) (w : Int32) : (yUp C H w).Nodup := (up_perm C H w).nodup_iff.mpr (men_nd C H w)
theorem up_in {w : Int32} {k : Nat} (h : k < (yUp C H w).length) : (yUp C H w).getD k 0 < C.2.1 ∧ ¬ sIn C H ((yUp C H w).getD k 0) w = 0 := by
  have : (yUp C H w).getD k 0 ∈ yUp C H w := by
    rw [List.getD_eq_getElem?_getD, List.getElem?_eq_getElem h]
    exact List.getElem_mem _
  exact sm_lt ((up_perm C H w).mem_iff.mp this)
/-- those that are up already -/
def yUb (C : zCs) (H : zA) (w : Int32) (k x : Nat) : Bool := ((yUp C H w).take k).contains x
theorem ub_0 (C : zCs) (H : zA) (w : Int32) : ySt (yUb C H w 0) C.2.1 = 0 := by
  have : yUb C H w 0 = fun _ => false := by funext x; unfold yUb; rw [List.take_zero]; rfl
  rw [this, st_none]
theorem ub_s {w : Int32} {k : Nat} (k2 : C.2.1 ≤ 6) (h : k < (yUp C H w).length) : ySt (yUb C H w k) C.2.1 ||| ((1 : Int32) <<< (nI ((yUp C H w).getD k 0) &&& 31)) = ySt (yUb C H w (k + 1)) C.2.1 := by
  rw [st_or _ k2 (up_in h).1]
  congr 1
  funext x
  unfold yUb
  rw [List.take_succ_eq_append_getElem h, List.getD_eq_getElem?_getD, List.getElem?_eq_getElem h]
  rw [Bool.eq_iff_iff]
  simp only [List.contains_eq_mem, decide_eq_true_eq, Bool.or_eq_true, beq_iff_eq, List.mem_append, List.mem_singleton, Option.getD_some]
theorem ub_no {w : Int32} {k : Nat} (h : k < (yUp C H w).length) : yUb C H w k ((yUp C H w).getD k 0) = false := by
  unfold yUb
  rw [List.contains_eq_mem, decide_eq_false_iff_not, List.mem_take_iff_getElem]
  rintro ⟨i, hi, e⟩
  have hi2 : i < k := by omega
  rw [List.getD_eq_getElem?_getD, List.getElem?_eq_getElem h] at e
  have pw := List.pairwise_iff_getElem.mp (up_nd C H w) i k (by omega) h hi2
  exact pw e
theorem ub_bit {w : Int32} {k : Nat} (k2 : C.2.1 ≤ 6) (h : k < (yUp C H w).length) : ¬ (ySt (yUb C H w k) C.2.1 >>> (nI ((yUp C H w).getD k 0) &&& 31)) &&& 1 = 1 := by
  rw [st_sh _ k2 (up_in h).1, ub_no h]
  decide
theorem cs_one {adj : Nat → Nat → Bool} {ht : Nat → Nat} : ∀ {l : List Nat}, l.length < 2 → yCs adj ht l = 0
  | [], _ => rfl
  | [a], _ => rfl
  | a :: b :: l, h => by simp at h; omega
end UPS
