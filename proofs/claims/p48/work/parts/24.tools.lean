/-! TOOLS: reading and writing cells, folds -/
section ZK
variable {r : zE} {h : zH} {k : Nat}
theorem zget_add : zget r h (r.1 + k) = h[k]? := by
  unfold zget
  rw [if_pos (Nat.le_add_right _ _), Nat.add_sub_cancel_left]
theorem zgI_of {ci f : Nat} {fs : List Value} {x : Int32} (e : h[k]? = some (.inr (.inr (ci, fs)))) (e2 : fs[f]? = some (.int x)) : zgI r h (r.1 + k) ci f = some x := by
  simp only [zgI, zget_add, e, if_pos, e2]
theorem zgL_of {ci f : Nat} {fs : List Value} {x : Int64} (e : h[k]? = some (.inr (.inr (ci, fs)))) (e2 : fs[f]? = some (.long x)) : zgL r h (r.1 + k) ci f = some x := by
  simp only [zgL, zget_add, e, if_pos, e2]
theorem zgR_of {ci f : Nat} {fs : List Value} {x : Nat} (e : h[k]? = some (.inr (.inr (ci, fs)))) (e2 : fs[f]? = some (.ref x)) : zgR r h (r.1 + k) ci f = some x := by
  simp only [zgR, zget_add, e, if_pos, e2]
theorem zob_of {ci : Nat} {fs : List Value} (e : h[k]? = some (.inr (.inr (ci, fs)))) : zob r h (r.1 + k) ci = true := by
  simp only [zob, zget_add, e, beq_self_eq_true]
theorem zpF_of {ci f : Nat} {fs : List Value} {v : Value} (e : h[k]? = some (.inr (.inr (ci, fs)))) (hl : f < fs.length) : zpF r h (r.1 + k) ci f v = some (h.set k (.inr (.inr (ci, fs.set f v)))) := by
  simp only [zpF, zget_add, e, true_and, if_pos hl, Nat.add_sub_cancel_left]
theorem zix_nI {j n : Nat} (hj : j < n) (hn : n < 2 ^ 31) : zix (nI j) n = some j := by
  have h1 : ¬ (nI j < 0 ∨ n ≤ (nI j).toNatClampNeg) := nI_in hj hn
  unfold zix
  rw [if_neg h1, nI_clamp (by omega)]
theorem zaI_of {n j : Nat} {f : Nat → Int32} (e : h[k]? = some (.inl (n, f))) (hj : j < n) (hn : n < 2 ^ 31) : zaI r h (r.1 + k) (nI j) = some (f j) := by
  unfold zaI
  rw [if_pos (Nat.le_add_right _ _), Nat.add_sub_cancel_left, e]
  simp only [zix_nI hj hn, Option.map_some]
theorem zaI_old {n j a : Nat} {f : Nat → Int32} (ha : ¬ r.1 ≤ a) (e : r.2.1 a = some (false, n, f)) (hj : j < n) (hn : n < 2 ^ 31) : zaI r h a (nI j) = some (f j) := by
  unfold zaI
  rw [if_neg ha, e]
  simp only [zix_nI hj hn, Option.map_some]
theorem zaC_old {n j a : Nat} {f : Nat → Int32} (ha : ¬ r.1 ≤ a) (e : r.2.1 a = some (true, n, f)) (hj : j < n) (hn : n < 2 ^ 31) : zaC r a (nI j) = some (f j) := by
  unfold zaC
  rw [if_neg ha, e]
  simp only [zix_nI hj hn, Option.map_some]
theorem zaN_old {b : Bool} {n a : Nat} {f : Nat → Int32} (ha : ¬ r.1 ≤ a) (e : r.2.1 a = some (b, n, f)) : zaN r h a = some n := by
  unfold zaN
  rw [if_neg ha, e]
theorem zaN_of {n : Nat} {f : Nat → Int32} (e : h[k]? = some (.inl (n, f))) : zaN r h (r.1 + k) = some n := by
  unfold zaN
  rw [if_pos (Nat.le_add_right _ _), Nat.add_sub_cancel_left, e]
theorem zaNq_of {n c : Nat} {f : Nat → Option Nat} (e : h[k]? = some (.inr (.inl (c, n, f)))) (hc : c = 4 ∨ c = 2) : zaN r h (r.1 + k) = some n := by
  unfold zaN
  rw [if_pos (Nat.le_add_right _ _), Nat.add_sub_cancel_left, e]
  simp only [if_pos hc]
theorem zsI_of {n j : Nat} {f : Nat → Int32} {x : Int32} (e : h[k]? = some (.inl (n, f))) (hj : j < n) (hn : n < 2 ^ 31) : zsI r h (r.1 + k) (nI j) x = some (h.set k (.inl (n, upd f j x))) := by
  simp only [zsI, zget_add, e, zix_nI hj hn, Option.map_some, Nat.add_sub_cancel_left]
theorem zaQ_of {n c j : Nat} {f : Nat → Option Nat} (e : h[k]? = some (.inr (.inl (c, n, f)))) (hc : c = 4 ∨ c = 2) (hj : j < n) (hn : n < 2 ^ 31) : zaQ r h (r.1 + k) (nI j) = some (f j) := by
  simp only [zaQ, zget_add, e, if_pos hc, zix_nI hj hn, Option.map_some]
theorem zcp_of {k1 n0 n1 sp dp n : Nat} {f g : Nat → Int32} (e0 : h[k]? = some (.inl (n0, f))) (e1 : h[k1]? = some (.inl (n1, g))) (h0 : sp + n ≤ n0) (h1 : dp + n ≤ n1) (hn0 : n0 < 2 ^ 31) (hn1 : n1 < 2 ^ 31) :
    zcp r h (r.1 + k) (nI sp) (r.1 + k1) (nI dp) (nI n) = some (h.set k1 (.inl (n1, va_cpy f g sp dp n))) := by
  have c1 := nI_clamp (n := sp) (by omega)
  have c2 := nI_clamp (n := dp) (by omega)
  have c3 := nI_clamp (n := n) (by omega)
  simp only [zcp, zget_add, e0, e1, c1, c2, c3, Nat.add_sub_cancel_left]
  rw [if_neg]
  rintro (q | q | q | q | q)
  · exact nI_pos (by omega) q
  · exact nI_pos (by omega) q
  · exact nI_pos (by omega) q
  · omega
  · omega
theorem zset_self {c : zC} : ∀ {h : zH} {k : Nat}, h[k]? = some c → h.set k c = h
  | [], _, e => by simp at e
  | a :: l, 0, e => by simp at e; subst e; rfl
  | a :: l, k + 1, e => by simp at e; rw [List.set_cons_succ, zset_self e]
end ZK
theorem zcI_some {X : Type} {x : Int32} {h : zH} {k : Int32 → zH → Option X} : zcI (some (some (.int x), h)) k = k x h := rfl
theorem zcL_some {X : Type} {x : Int64} {h : zH} {k : Int64 → zH → Option X} : zcL (some (some (.long x), h)) k = k x h := rfl
theorem zcV_some {X : Type} {h : zH} {k : zH → Option X} : zcV (some (none, h)) k = k h := rfl
theorem zcQ_ref {X : Type} {a : Nat} {h : zH} {k : Option Nat → zH → Option X} : zcQ (some (some (.ref a), h)) k = k (some a) h := rfl
theorem zcQ_null {X : Type} {h : zH} {k : Option Nat → zH → Option X} : zcQ (some (some .null, h)) k = k none h := rfl
/-- a loop's value: from place j on, n steps -/
def zfd {α : Type} (f : α → Nat → α) : Nat → Nat → α → α
  | _, 0, s => s
  | j, n + 1, s => zfd f (j + 1) n (f s j)
theorem zfd_congr {α : Type} {f g : α → Nat → α} : ∀ {j n : Nat} {s : α}, (∀ s i, j ≤ i → i < j + n → f s i = g s i) → zfd f j n s = zfd g j n s
  | _, 0, _, _ => rfl
  | j, n + 1, s, h => by
    simp only [zfd]
    rw [h s j (Nat.le_refl _) (by omega)]
    exact zfd_congr fun s i h1 h2 => h s i (by omega) (by omega)
theorem zfd_inv {α : Type} {f : α → Nat → α} (P : Nat → α → Prop) : ∀ {j n : Nat} {s : α}, P j s → (∀ s i, j ≤ i → i < j + n → P i s → P (i + 1) (f s i)) → P (j + n) (zfd f j n s)
  | _, 0, _, h, _ => h
  | j, n + 1, s, h, hs => by
    simp only [zfd]
    have := zfd_inv P (j := j + 1) (n := n) (s := f s j) (hs s j (Nat.le_refl _) (by omega) h) (fun s i h1 h2 => hs s i (by omega) (by omega))
    rwa [show j + 1 + n = j + (n + 1) by omega] at this
theorem zfd_succ {α : Type} {f : α → Nat → α} : ∀ {j n : Nat} {s : α}, zfd f j (n + 1) s = f (zfd f j n s) (j + n)
  | _, 0, _ => rfl
  | j, n + 1, s => by
    rw [zfd, zfd_succ, zfd]
    congr 1
    omega
