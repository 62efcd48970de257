/-! THE HEAP AS IT ALWAYS LOOKS (printed by wip/whole/gen25.py) -/
/-- how one hangs: hooks, holders, lines, tired -/
abbrev zBr : Type := (Nat → Int32) × (Nat → Int32) × (Nat → Int32) × (Nat → Int32)
/-- what the reference tries: hooks, lines, an order -/
abbrev zSs : Type := (Nat → Int32) × (Nat → Int32) × (Nat → Int32)
def zrf (b n : Nat) : Nat → Option Nat := fun j => if j < n then some (b + 2 * j) else none
def zmk (r : zE) (c0 c1 c2 : Nat) (I : Nat → Int32) (J : Nat → Int64) (Q : Nat → Nat → Int32) (N A : zBr) (U : Nat → Int32) (V : Nat → Int64) (X : Nat → Nat → Int32) (S : zSs) (t : zH) : zH := [
  .inr (.inr (5, [.ref (r.1 + 1), .ref (r.1 + 2), .ref (r.1 + c0), .ref (r.1 + 9), .ref (r.1 + 14), .ref (r.1 + 19), .ref (r.1 + 21), .int (I 0), .long (J 0), .long (J 1), .int (I 1), .ref (r.1 + 22)])),
  .inr (.inl (4, 6, zrf (r.1 + 23) 6)),
  .inr (.inl (4, 4, zrf (r.1 + 35) 4)),
  .inr (.inr (1, [.int 0, .int 0, .ref (r.1 + 4), .ref (r.1 + 5), .ref (r.1 + 6), .ref (r.1 + 7), .ref (r.1 + 8)])),
  .inl (7, fun _ => 0),
  .inl (6, fun _ => 0),
  .inl (6, fun _ => 0),
  .inl (6, fun _ => 0),
  .inl (6, fun _ => 0),
  .inr (.inr (0, [.ref (r.1 + c1), .ref (r.1 + 10), .ref (r.1 + 11), .ref (r.1 + 12), .ref (r.1 + 13)])),
  .inl (6, N.1),
  .inl (7, N.2.1),
  .inl (6, N.2.2.1),
  .inl (6, N.2.2.2),
  .inr (.inr (0, [.ref (r.1 + c2), .ref (r.1 + 15), .ref (r.1 + 16), .ref (r.1 + 17), .ref (r.1 + 18)])),
  .inl (6, A.1),
  .inl (7, A.2.1),
  .inl (6, A.2.2.1),
  .inl (6, A.2.2.2),
  .inr (.inr (2, [.ref (r.1 + 20), .int (I 2)])),
  .inl (1098, Q 9),
  .inr (.inl (2, 3, zrf (r.1 + 43) 3)),
  .inl (6, Q 0),
  .inr (.inr (4, [.ref (r.1 + 24), .int (I 6)])),
  .inl (60, Q 13),
  .inr (.inr (4, [.ref (r.1 + 26), .int (I 7)])),
  .inl (60, Q 14),
  .inr (.inr (4, [.ref (r.1 + 28), .int (I 8)])),
  .inl (60, Q 15),
  .inr (.inr (4, [.ref (r.1 + 30), .int (I 9)])),
  .inl (60, Q 16),
  .inr (.inr (4, [.ref (r.1 + 32), .int (I 10)])),
  .inl (60, Q 17),
  .inr (.inr (4, [.ref (r.1 + 34), .int (I 11)])),
  .inl (60, Q 18),
  .inr (.inr (4, [.ref (r.1 + 36), .int (I 12)])),
  .inl (60, Q 19),
  .inr (.inr (4, [.ref (r.1 + 38), .int (I 13)])),
  .inl (60, Q 20),
  .inr (.inr (4, [.ref (r.1 + 40), .int (I 14)])),
  .inl (60, Q 21),
  .inr (.inr (4, [.ref (r.1 + 42), .int (I 15)])),
  .inl (60, Q 22),
  .inr (.inr (2, [.ref (r.1 + 44), .int (I 3)])),
  .inl (1098, Q 10),
  .inr (.inr (2, [.ref (r.1 + 46), .int (I 4)])),
  .inl (1098, Q 11),
  .inr (.inr (2, [.ref (r.1 + 48), .int (I 5)])),
  .inl (1098, Q 12),
  .inr (.inr (6, [.ref (r.1 + 50), .int (U 0), .ref (r.1 + 51), .int (U 1), .ref (r.1 + 52), .ref (r.1 + 53), .ref (r.1 + 54), .ref (r.1 + 55), .ref (r.1 + 56), .ref (r.1 + 57), .ref (r.1 + 58), .int (U 2), .long (V 0), .long (V 1), .int (U 3), .ref (r.1 + 59), .int (U 4), .int (U 5), .int (U 6), .ref (r.1 + 60), .int (U 7), .ref (r.1 + 61), .int (U 8), .ref (r.1 + 62), .ref (r.1 + 63), .ref (r.1 + 64)])),
  .inl (4396, X 0),
  .inl (7, X 1),
  .inl (6, X 2),
  .inl (6, X 3),
  .inl (6, X 4),
  .inl (6, X 5),
  .inl (240, X 6),
  .inl (4, X 7),
  .inl (240, X 8),
  .inl (6, X 9),
  .inl (7, X 10),
  .inl (24, X 11),
  .inl (6, S.1),
  .inl (6, S.2.1),
  .inl (6, S.2.2)] ++ t
section ZMK
variable {r : zE} {c0 c1 c2 : Nat} {I : Nat → Int32} {J : Nat → Int64} {Q : Nat → Nat → Int32} {N A : zBr} {U : Nat → Int32} {V : Nat → Int64} {X : Nat → Nat → Int32} {S : zSs} {t : zH}
theorem mc_0 : (zmk r c0 c1 c2 I J Q N A U V X S t)[0]? = some (.inr (.inr (5, [.ref (r.1 + 1), .ref (r.1 + 2), .ref (r.1 + c0), .ref (r.1 + 9), .ref (r.1 + 14), .ref (r.1 + 19), .ref (r.1 + 21), .int (I 0), .long (J 0), .long (J 1), .int (I 1), .ref (r.1 + 22)]))) := rfl
theorem mo_0 : zob r (zmk r c0 c1 c2 I J Q N A U V X S t) (r.1 + 0) 5 = true := zob_of mc_0
theorem mg_0_0 : zgR r (zmk r c0 c1 c2 I J Q N A U V X S t) (r.1 + 0) 5 0 = some (r.1 + 1) := zgR_of mc_0 rfl
theorem mg_0_1 : zgR r (zmk r c0 c1 c2 I J Q N A U V X S t) (r.1 + 0) 5 1 = some (r.1 + 2) := zgR_of mc_0 rfl
theorem mg_0_2 : zgR r (zmk r c0 c1 c2 I J Q N A U V X S t) (r.1 + 0) 5 2 = some (r.1 + c0) := zgR_of mc_0 rfl
theorem mp_0_2 (v : Nat) : zpF r (zmk r c0 c1 c2 I J Q N A U V X S t) (r.1 + 0) 5 2 (.ref (r.1 + v)) = some (zmk r v c1 c2 I J Q N A U V X S t) := (zpF_of mc_0 (Nat.le_of_ble_eq_true rfl)).trans rfl
theorem mg_0_3 : zgR r (zmk r c0 c1 c2 I J Q N A U V X S t) (r.1 + 0) 5 3 = some (r.1 + 9) := zgR_of mc_0 rfl
theorem mg_0_4 : zgR r (zmk r c0 c1 c2 I J Q N A U V X S t) (r.1 + 0) 5 4 = some (r.1 + 14) := zgR_of mc_0 rfl
theorem mg_0_5 : zgR r (zmk r c0 c1 c2 I J Q N A U V X S t) (r.1 + 0) 5 5 = some (r.1 + 19) := zgR_of mc_0 rfl
theorem mg_0_6 : zgR r (zmk r c0 c1 c2 I J Q N A U V X S t) (r.1 + 0) 5 6 = some (r.1 + 21) := zgR_of mc_0 rfl
theorem mg_0_7 : zgI r (zmk r c0 c1 c2 I J Q N A U V X S t) (r.1 + 0) 5 7 = some (I 0) := zgI_of mc_0 rfl
theorem mp_0_7 (v : Int32) : zpF r (zmk r c0 c1 c2 I J Q N A U V X S t) (r.1 + 0) 5 7 (.int v) = some (zmk r c0 c1 c2 (va_up I 0 v) J Q N A U V X S t) := (zpF_of mc_0 (Nat.le_of_ble_eq_true rfl)).trans rfl
theorem mg_0_8 : zgL r (zmk r c0 c1 c2 I J Q N A U V X S t) (r.1 + 0) 5 8 = some (J 0) := zgL_of mc_0 rfl
theorem mp_0_8 (v : Int64) : zpF r (zmk r c0 c1 c2 I J Q N A U V X S t) (r.1 + 0) 5 8 (.long v) = some (zmk r c0 c1 c2 I (va_up J 0 v) Q N A U V X S t) := (zpF_of mc_0 (Nat.le_of_ble_eq_true rfl)).trans rfl
theorem mg_0_9 : zgL r (zmk r c0 c1 c2 I J Q N A U V X S t) (r.1 + 0) 5 9 = some (J 1) := zgL_of mc_0 rfl
theorem mp_0_9 (v : Int64) : zpF r (zmk r c0 c1 c2 I J Q N A U V X S t) (r.1 + 0) 5 9 (.long v) = some (zmk r c0 c1 c2 I (va_up J 1 v) Q N A U V X S t) := (zpF_of mc_0 (Nat.le_of_ble_eq_true rfl)).trans rfl
theorem mg_0_10 : zgI r (zmk r c0 c1 c2 I J Q N A U V X S t) (r.1 + 0) 5 10 = some (I 1) := zgI_of mc_0 rfl
theorem mp_0_10 (v : Int32) : zpF r (zmk r c0 c1 c2 I J Q N A U V X S t) (r.1 + 0) 5 10 (.int v) = some (zmk r c0 c1 c2 (va_up I 1 v) J Q N A U V X S t) := (zpF_of mc_0 (Nat.le_of_ble_eq_true rfl)).trans rfl
theorem mg_0_11 : zgR r (zmk r c0 c1 c2 I J Q N A U V X S t) (r.1 + 0) 5 11 = some (r.1 + 22) := zgR_of mc_0 rfl
theorem mc_1 : (zmk r c0 c1 c2 I J Q N A U V X S t)[1]? = some (.inr (.inl (4, 6, zrf (r.1 + 23) 6))) := rfl
theorem mq_1 {j : Nat} (hj : j < 6) : zaQ r (zmk r c0 c1 c2 I J Q N A U V X S t) (r.1 + 1) (nI j) = some (some (r.1 + 23 + 2 * j)) := (zaQ_of mc_1 (by decide) hj (by omega)).trans (by unfold zrf; rw [if_pos hj])
theorem mn_1 : zaN r (zmk r c0 c1 c2 I J Q N A U V X S t) (r.1 + 1) = some 6 := zaNq_of mc_1 (by decide)
theorem mc_2 : (zmk r c0 c1 c2 I J Q N A U V X S t)[2]? = some (.inr (.inl (4, 4, zrf (r.1 + 35) 4))) := rfl
theorem mq_2 {j : Nat} (hj : j < 4) : zaQ r (zmk r c0 c1 c2 I J Q N A U V X S t) (r.1 + 2) (nI j) = some (some (r.1 + 35 + 2 * j)) := (zaQ_of mc_2 (by decide) hj (by omega)).trans (by unfold zrf; rw [if_pos hj])
theorem mn_2 : zaN r (zmk r c0 c1 c2 I J Q N A U V X S t) (r.1 + 2) = some 4 := zaNq_of mc_2 (by decide)
theorem mc_3 : (zmk r c0 c1 c2 I J Q N A U V X S t)[3]? = some (.inr (.inr (1, [.int 0, .int 0, .ref (r.1 + 4), .ref (r.1 + 5), .ref (r.1 + 6), .ref (r.1 + 7), .ref (r.1 + 8)]))) := rfl
theorem mo_3 : zob r (zmk r c0 c1 c2 I J Q N A U V X S t) (r.1 + 3) 1 = true := zob_of mc_3
theorem mg_3_0 : zgI r (zmk r c0 c1 c2 I J Q N A U V X S t) (r.1 + 3) 1 0 = some (0) := zgI_of mc_3 rfl
theorem mg_3_1 : zgI r (zmk r c0 c1 c2 I J Q N A U V X S t) (r.1 + 3) 1 1 = some (0) := zgI_of mc_3 rfl
theorem mg_3_2 : zgR r (zmk r c0 c1 c2 I J Q N A U V X S t) (r.1 + 3) 1 2 = some (r.1 + 4) := zgR_of mc_3 rfl
theorem mg_3_3 : zgR r (zmk r c0 c1 c2 I J Q N A U V X S t) (r.1 + 3) 1 3 = some (r.1 + 5) := zgR_of mc_3 rfl
theorem mg_3_4 : zgR r (zmk r c0 c1 c2 I J Q N A U V X S t) (r.1 + 3) 1 4 = some (r.1 + 6) := zgR_of mc_3 rfl
theorem mg_3_5 : zgR r (zmk r c0 c1 c2 I J Q N A U V X S t) (r.1 + 3) 1 5 = some (r.1 + 7) := zgR_of mc_3 rfl
theorem mg_3_6 : zgR r (zmk r c0 c1 c2 I J Q N A U V X S t) (r.1 + 3) 1 6 = some (r.1 + 8) := zgR_of mc_3 rfl
theorem mc_4 : (zmk r c0 c1 c2 I J Q N A U V X S t)[4]? = some (.inl (7, fun _ => 0)) := rfl
theorem mc_5 : (zmk r c0 c1 c2 I J Q N A U V X S t)[5]? = some (.inl (6, fun _ => 0)) := rfl
theorem mc_6 : (zmk r c0 c1 c2 I J Q N A U V X S t)[6]? = some (.inl (6, fun _ => 0)) := rfl
theorem mc_7 : (zmk r c0 c1 c2 I J Q N A U V X S t)[7]? = some (.inl (6, fun _ => 0)) := rfl
theorem mc_8 : (zmk r c0 c1 c2 I J Q N A U V X S t)[8]? = some (.inl (6, fun _ => 0)) := rfl
theorem mc_9 : (zmk r c0 c1 c2 I J Q N A U V X S t)[9]? = some (.inr (.inr (0, [.ref (r.1 + c1), .ref (r.1 + 10), .ref (r.1 + 11), .ref (r.1 + 12), .ref (r.1 + 13)]))) := rfl
theorem mo_9 : zob r (zmk r c0 c1 c2 I J Q N A U V X S t) (r.1 + 9) 0 = true := zob_of mc_9
theorem mg_9_0 : zgR r (zmk r c0 c1 c2 I J Q N A U V X S t) (r.1 + 9) 0 0 = some (r.1 + c1) := zgR_of mc_9 rfl
theorem mp_9_0 (v : Nat) : zpF r (zmk r c0 c1 c2 I J Q N A U V X S t) (r.1 + 9) 0 0 (.ref (r.1 + v)) = some (zmk r c0 v c2 I J Q N A U V X S t) := (zpF_of mc_9 (Nat.le_of_ble_eq_true rfl)).trans rfl
theorem mg_9_1 : zgR r (zmk r c0 c1 c2 I J Q N A U V X S t) (r.1 + 9) 0 1 = some (r.1 + 10) := zgR_of mc_9 rfl
theorem mg_9_2 : zgR r (zmk r c0 c1 c2 I J Q N A U V X S t) (r.1 + 9) 0 2 = some (r.1 + 11) := zgR_of mc_9 rfl
theorem mg_9_3 : zgR r (zmk r c0 c1 c2 I J Q N A U V X S t) (r.1 + 9) 0 3 = some (r.1 + 12) := zgR_of mc_9 rfl
theorem mg_9_4 : zgR r (zmk r c0 c1 c2 I J Q N A U V X S t) (r.1 + 9) 0 4 = some (r.1 + 13) := zgR_of mc_9 rfl
theorem mc_10 : (zmk r c0 c1 c2 I J Q N A U V X S t)[10]? = some (.inl (6, N.1)) := rfl
theorem ms_10 (f : Nat → Int32) : (zmk r c0 c1 c2 I J Q N A U V X S t).set 10 (.inl (6, f)) = zmk r c0 c1 c2 I J Q (f, N.2.1, N.2.2.1, N.2.2.2) A U V X S t := rfl
theorem ma_10 {j : Nat} (hj : j < 6) : zaI r (zmk r c0 c1 c2 I J Q N A U V X S t) (r.1 + 10) (nI j) = some (N.1 j) := zaI_of mc_10 hj (by decide)
theorem mw_10 {j : Nat} {v : Int32} (hj : j < 6) : zsI r (zmk r c0 c1 c2 I J Q N A U V X S t) (r.1 + 10) (nI j) v = some (zmk r c0 c1 c2 I J Q (upd (N.1) j v, N.2.1, N.2.2.1, N.2.2.2) A U V X S t) := (zsI_of mc_10 hj (by decide)).trans rfl
theorem mn_10 : zaN r (zmk r c0 c1 c2 I J Q N A U V X S t) (r.1 + 10) = some 6 := zaN_of mc_10
theorem mc_11 : (zmk r c0 c1 c2 I J Q N A U V X S t)[11]? = some (.inl (7, N.2.1)) := rfl
theorem ms_11 (f : Nat → Int32) : (zmk r c0 c1 c2 I J Q N A U V X S t).set 11 (.inl (7, f)) = zmk r c0 c1 c2 I J Q (N.1, f, N.2.2.1, N.2.2.2) A U V X S t := rfl
theorem ma_11 {j : Nat} (hj : j < 7) : zaI r (zmk r c0 c1 c2 I J Q N A U V X S t) (r.1 + 11) (nI j) = some (N.2.1 j) := zaI_of mc_11 hj (by decide)
theorem mw_11 {j : Nat} {v : Int32} (hj : j < 7) : zsI r (zmk r c0 c1 c2 I J Q N A U V X S t) (r.1 + 11) (nI j) v = some (zmk r c0 c1 c2 I J Q (N.1, upd (N.2.1) j v, N.2.2.1, N.2.2.2) A U V X S t) := (zsI_of mc_11 hj (by decide)).trans rfl
theorem mn_11 : zaN r (zmk r c0 c1 c2 I J Q N A U V X S t) (r.1 + 11) = some 7 := zaN_of mc_11
theorem mc_12 : (zmk r c0 c1 c2 I J Q N A U V X S t)[12]? = some (.inl (6, N.2.2.1)) := rfl
theorem ms_12 (f : Nat → Int32) : (zmk r c0 c1 c2 I J Q N A U V X S t).set 12 (.inl (6, f)) = zmk r c0 c1 c2 I J Q (N.1, N.2.1, f, N.2.2.2) A U V X S t := rfl
theorem ma_12 {j : Nat} (hj : j < 6) : zaI r (zmk r c0 c1 c2 I J Q N A U V X S t) (r.1 + 12) (nI j) = some (N.2.2.1 j) := zaI_of mc_12 hj (by decide)
theorem mw_12 {j : Nat} {v : Int32} (hj : j < 6) : zsI r (zmk r c0 c1 c2 I J Q N A U V X S t) (r.1 + 12) (nI j) v = some (zmk r c0 c1 c2 I J Q (N.1, N.2.1, upd (N.2.2.1) j v, N.2.2.2) A U V X S t) := (zsI_of mc_12 hj (by decide)).trans rfl
theorem mn_12 : zaN r (zmk r c0 c1 c2 I J Q N A U V X S t) (r.1 + 12) = some 6 := zaN_of mc_12
theorem mc_13 : (zmk r c0 c1 c2 I J Q N A U V X S t)[13]? = some (.inl (6, N.2.2.2)) := rfl
theorem ms_13 (f : Nat → Int32) : (zmk r c0 c1 c2 I J Q N A U V X S t).set 13 (.inl (6, f)) = zmk r c0 c1 c2 I J Q (N.1, N.2.1, N.2.2.1, f) A U V X S t := rfl
theorem ma_13 {j : Nat} (hj : j < 6) : zaI r (zmk r c0 c1 c2 I J Q N A U V X S t) (r.1 + 13) (nI j) = some (N.2.2.2 j) := zaI_of mc_13 hj (by decide)
theorem mw_13 {j : Nat} {v : Int32} (hj : j < 6) : zsI r (zmk r c0 c1 c2 I J Q N A U V X S t) (r.1 + 13) (nI j) v = some (zmk r c0 c1 c2 I J Q (N.1, N.2.1, N.2.2.1, upd (N.2.2.2) j v) A U V X S t) := (zsI_of mc_13 hj (by decide)).trans rfl
theorem mn_13 : zaN r (zmk r c0 c1 c2 I J Q N A U V X S t) (r.1 + 13) = some 6 := zaN_of mc_13
theorem mc_14 : (zmk r c0 c1 c2 I J Q N A U V X S t)[14]? = some (.inr (.inr (0, [.ref (r.1 + c2), .ref (r.1 + 15), .ref (r.1 + 16), .ref (r.1 + 17), .ref (r.1 + 18)]))) := rfl
theorem mo_14 : zob r (zmk r c0 c1 c2 I J Q N A U V X S t) (r.1 + 14) 0 = true := zob_of mc_14
theorem mg_14_0 : zgR r (zmk r c0 c1 c2 I J Q N A U V X S t) (r.1 + 14) 0 0 = some (r.1 + c2) := zgR_of mc_14 rfl
theorem mp_14_0 (v : Nat) : zpF r (zmk r c0 c1 c2 I J Q N A U V X S t) (r.1 + 14) 0 0 (.ref (r.1 + v)) = some (zmk r c0 c1 v I J Q N A U V X S t) := (zpF_of mc_14 (Nat.le_of_ble_eq_true rfl)).trans rfl
theorem mg_14_1 : zgR r (zmk r c0 c1 c2 I J Q N A U V X S t) (r.1 + 14) 0 1 = some (r.1 + 15) := zgR_of mc_14 rfl
theorem mg_14_2 : zgR r (zmk r c0 c1 c2 I J Q N A U V X S t) (r.1 + 14) 0 2 = some (r.1 + 16) := zgR_of mc_14 rfl
theorem mg_14_3 : zgR r (zmk r c0 c1 c2 I J Q N A U V X S t) (r.1 + 14) 0 3 = some (r.1 + 17) := zgR_of mc_14 rfl
theorem mg_14_4 : zgR r (zmk r c0 c1 c2 I J Q N A U V X S t) (r.1 + 14) 0 4 = some (r.1 + 18) := zgR_of mc_14 rfl
theorem mc_15 : (zmk r c0 c1 c2 I J Q N A U V X S t)[15]? = some (.inl (6, A.1)) := rfl
theorem ms_15 (f : Nat → Int32) : (zmk r c0 c1 c2 I J Q N A U V X S t).set 15 (.inl (6, f)) = zmk r c0 c1 c2 I J Q N (f, A.2.1, A.2.2.1, A.2.2.2) U V X S t := rfl
theorem ma_15 {j : Nat} (hj : j < 6) : zaI r (zmk r c0 c1 c2 I J Q N A U V X S t) (r.1 + 15) (nI j) = some (A.1 j) := zaI_of mc_15 hj (by decide)
theorem mw_15 {j : Nat} {v : Int32} (hj : j < 6) : zsI r (zmk r c0 c1 c2 I J Q N A U V X S t) (r.1 + 15) (nI j) v = some (zmk r c0 c1 c2 I J Q N (upd (A.1) j v, A.2.1, A.2.2.1, A.2.2.2) U V X S t) := (zsI_of mc_15 hj (by decide)).trans rfl
theorem mn_15 : zaN r (zmk r c0 c1 c2 I J Q N A U V X S t) (r.1 + 15) = some 6 := zaN_of mc_15
theorem mc_16 : (zmk r c0 c1 c2 I J Q N A U V X S t)[16]? = some (.inl (7, A.2.1)) := rfl
theorem ms_16 (f : Nat → Int32) : (zmk r c0 c1 c2 I J Q N A U V X S t).set 16 (.inl (7, f)) = zmk r c0 c1 c2 I J Q N (A.1, f, A.2.2.1, A.2.2.2) U V X S t := rfl
theorem ma_16 {j : Nat} (hj : j < 7) : zaI r (zmk r c0 c1 c2 I J Q N A U V X S t) (r.1 + 16) (nI j) = some (A.2.1 j) := zaI_of mc_16 hj (by decide)
theorem mw_16 {j : Nat} {v : Int32} (hj : j < 7) : zsI r (zmk r c0 c1 c2 I J Q N A U V X S t) (r.1 + 16) (nI j) v = some (zmk r c0 c1 c2 I J Q N (A.1, upd (A.2.1) j v, A.2.2.1, A.2.2.2) U V X S t) := (zsI_of mc_16 hj (by decide)).trans rfl
theorem mn_16 : zaN r (zmk r c0 c1 c2 I J Q N A U V X S t) (r.1 + 16) = some 7 := zaN_of mc_16
theorem mc_17 : (zmk r c0 c1 c2 I J Q N A U V X S t)[17]? = some (.inl (6, A.2.2.1)) := rfl
theorem ms_17 (f : Nat → Int32) : (zmk r c0 c1 c2 I J Q N A U V X S t).set 17 (.inl (6, f)) = zmk r c0 c1 c2 I J Q N (A.1, A.2.1, f, A.2.2.2) U V X S t := rfl
theorem ma_17 {j : Nat} (hj : j < 6) : zaI r (zmk r c0 c1 c2 I J Q N A U V X S t) (r.1 + 17) (nI j) = some (A.2.2.1 j) := zaI_of mc_17 hj (by decide)
theorem mw_17 {j : Nat} {v : Int32} (hj : j < 6) : zsI r (zmk r c0 c1 c2 I J Q N A U V X S t) (r.1 + 17) (nI j) v = some (zmk r c0 c1 c2 I J Q N (A.1, A.2.1, upd (A.2.2.1) j v, A.2.2.2) U V X S t) := (zsI_of mc_17 hj (by decide)).trans rfl
theorem mn_17 : zaN r (zmk r c0 c1 c2 I J Q N A U V X S t) (r.1 + 17) = some 6 := zaN_of mc_17
theorem mc_18 : (zmk r c0 c1 c2 I J Q N A U V X S t)[18]? = some (.inl (6, A.2.2.2)) := rfl
theorem ms_18 (f : Nat → Int32) : (zmk r c0 c1 c2 I J Q N A U V X S t).set 18 (.inl (6, f)) = zmk r c0 c1 c2 I J Q N (A.1, A.2.1, A.2.2.1, f) U V X S t := rfl
theorem ma_18 {j : Nat} (hj : j < 6) : zaI r (zmk r c0 c1 c2 I J Q N A U V X S t) (r.1 + 18) (nI j) = some (A.2.2.2 j) := zaI_of mc_18 hj (by decide)
theorem mw_18 {j : Nat} {v : Int32} (hj : j < 6) : zsI r (zmk r c0 c1 c2 I J Q N A U V X S t) (r.1 + 18) (nI j) v = some (zmk r c0 c1 c2 I J Q N (A.1, A.2.1, A.2.2.1, upd (A.2.2.2) j v) U V X S t) := (zsI_of mc_18 hj (by decide)).trans rfl
theorem mn_18 : zaN r (zmk r c0 c1 c2 I J Q N A U V X S t) (r.1 + 18) = some 6 := zaN_of mc_18
theorem mc_19 : (zmk r c0 c1 c2 I J Q N A U V X S t)[19]? = some (.inr (.inr (2, [.ref (r.1 + 20), .int (I 2)]))) := rfl
theorem mo_19 : zob r (zmk r c0 c1 c2 I J Q N A U V X S t) (r.1 + 19) 2 = true := zob_of mc_19
theorem mg_19_0 : zgR r (zmk r c0 c1 c2 I J Q N A U V X S t) (r.1 + 19) 2 0 = some (r.1 + 20) := zgR_of mc_19 rfl
theorem mg_19_1 : zgI r (zmk r c0 c1 c2 I J Q N A U V X S t) (r.1 + 19) 2 1 = some (I 2) := zgI_of mc_19 rfl
theorem mp_19_1 (v : Int32) : zpF r (zmk r c0 c1 c2 I J Q N A U V X S t) (r.1 + 19) 2 1 (.int v) = some (zmk r c0 c1 c2 (va_up I 2 v) J Q N A U V X S t) := (zpF_of mc_19 (Nat.le_of_ble_eq_true rfl)).trans rfl
theorem mc_20 : (zmk r c0 c1 c2 I J Q N A U V X S t)[20]? = some (.inl (1098, Q 9)) := rfl
theorem ms_20 (f : Nat → Int32) : (zmk r c0 c1 c2 I J Q N A U V X S t).set 20 (.inl (1098, f)) = zmk r c0 c1 c2 I J (va_up Q 9 f) N A U V X S t := rfl
theorem ma_20 {j : Nat} (hj : j < 1098) : zaI r (zmk r c0 c1 c2 I J Q N A U V X S t) (r.1 + 20) (nI j) = some (Q 9 j) := zaI_of mc_20 hj (by decide)
theorem mw_20 {j : Nat} {v : Int32} (hj : j < 1098) : zsI r (zmk r c0 c1 c2 I J Q N A U V X S t) (r.1 + 20) (nI j) v = some (zmk r c0 c1 c2 I J (va_up Q 9 (upd (Q 9) j v)) N A U V X S t) := (zsI_of mc_20 hj (by decide)).trans rfl
theorem mn_20 : zaN r (zmk r c0 c1 c2 I J Q N A U V X S t) (r.1 + 20) = some 1098 := zaN_of mc_20
theorem mc_21 : (zmk r c0 c1 c2 I J Q N A U V X S t)[21]? = some (.inr (.inl (2, 3, zrf (r.1 + 43) 3))) := rfl
theorem mq_21 {j : Nat} (hj : j < 3) : zaQ r (zmk r c0 c1 c2 I J Q N A U V X S t) (r.1 + 21) (nI j) = some (some (r.1 + 43 + 2 * j)) := (zaQ_of mc_21 (by decide) hj (by omega)).trans (by unfold zrf; rw [if_pos hj])
theorem mn_21 : zaN r (zmk r c0 c1 c2 I J Q N A U V X S t) (r.1 + 21) = some 3 := zaNq_of mc_21 (by decide)
theorem mc_22 : (zmk r c0 c1 c2 I J Q N A U V X S t)[22]? = some (.inl (6, Q 0)) := rfl
theorem ms_22 (f : Nat → Int32) : (zmk r c0 c1 c2 I J Q N A U V X S t).set 22 (.inl (6, f)) = zmk r c0 c1 c2 I J (va_up Q 0 f) N A U V X S t := rfl
theorem ma_22 {j : Nat} (hj : j < 6) : zaI r (zmk r c0 c1 c2 I J Q N A U V X S t) (r.1 + 22) (nI j) = some (Q 0 j) := zaI_of mc_22 hj (by decide)
theorem mw_22 {j : Nat} {v : Int32} (hj : j < 6) : zsI r (zmk r c0 c1 c2 I J Q N A U V X S t) (r.1 + 22) (nI j) v = some (zmk r c0 c1 c2 I J (va_up Q 0 (upd (Q 0) j v)) N A U V X S t) := (zsI_of mc_22 hj (by decide)).trans rfl
theorem mn_22 : zaN r (zmk r c0 c1 c2 I J Q N A U V X S t) (r.1 + 22) = some 6 := zaN_of mc_22
theorem mc_23 : (zmk r c0 c1 c2 I J Q N A U V X S t)[23]? = some (.inr (.inr (4, [.ref (r.1 + 24), .int (I 6)]))) := rfl
theorem mo_23 : zob r (zmk r c0 c1 c2 I J Q N A U V X S t) (r.1 + 23) 4 = true := zob_of mc_23
theorem mg_23_0 : zgR r (zmk r c0 c1 c2 I J Q N A U V X S t) (r.1 + 23) 4 0 = some (r.1 + 24) := zgR_of mc_23 rfl
theorem mg_23_1 : zgI r (zmk r c0 c1 c2 I J Q N A U V X S t) (r.1 + 23) 4 1 = some (I 6) := zgI_of mc_23 rfl
theorem mp_23_1 (v : Int32) : zpF r (zmk r c0 c1 c2 I J Q N A U V X S t) (r.1 + 23) 4 1 (.int v) = some (zmk r c0 c1 c2 (va_up I 6 v) J Q N A U V X S t) := (zpF_of mc_23 (Nat.le_of_ble_eq_true rfl)).trans rfl
theorem mc_24 : (zmk r c0 c1 c2 I J Q N A U V X S t)[24]? = some (.inl (60, Q 13)) := rfl
theorem ms_24 (f : Nat → Int32) : (zmk r c0 c1 c2 I J Q N A U V X S t).set 24 (.inl (60, f)) = zmk r c0 c1 c2 I J (va_up Q 13 f) N A U V X S t := rfl
theorem ma_24 {j : Nat} (hj : j < 60) : zaI r (zmk r c0 c1 c2 I J Q N A U V X S t) (r.1 + 24) (nI j) = some (Q 13 j) := zaI_of mc_24 hj (by decide)
theorem mw_24 {j : Nat} {v : Int32} (hj : j < 60) : zsI r (zmk r c0 c1 c2 I J Q N A U V X S t) (r.1 + 24) (nI j) v = some (zmk r c0 c1 c2 I J (va_up Q 13 (upd (Q 13) j v)) N A U V X S t) := (zsI_of mc_24 hj (by decide)).trans rfl
theorem mn_24 : zaN r (zmk r c0 c1 c2 I J Q N A U V X S t) (r.1 + 24) = some 60 := zaN_of mc_24
theorem mc_25 : (zmk r c0 c1 c2 I J Q N A U V X S t)[25]? = some (.inr (.inr (4, [.ref (r.1 + 26), .int (I 7)]))) := rfl
theorem mo_25 : zob r (zmk r c0 c1 c2 I J Q N A U V X S t) (r.1 + 25) 4 = true := zob_of mc_25
theorem mg_25_0 : zgR r (zmk r c0 c1 c2 I J Q N A U V X S t) (r.1 + 25) 4 0 = some (r.1 + 26) := zgR_of mc_25 rfl
theorem mg_25_1 : zgI r (zmk r c0 c1 c2 I J Q N A U V X S t) (r.1 + 25) 4 1 = some (I 7) := zgI_of mc_25 rfl
theorem mp_25_1 (v : Int32) : zpF r (zmk r c0 c1 c2 I J Q N A U V X S t) (r.1 + 25) 4 1 (.int v) = some (zmk r c0 c1 c2 (va_up I 7 v) J Q N A U V X S t) := (zpF_of mc_25 (Nat.le_of_ble_eq_true rfl)).trans rfl
theorem mc_26 : (zmk r c0 c1 c2 I J Q N A U V X S t)[26]? = some (.inl (60, Q 14)) := rfl
theorem ms_26 (f : Nat → Int32) : (zmk r c0 c1 c2 I J Q N A U V X S t).set 26 (.inl (60, f)) = zmk r c0 c1 c2 I J (va_up Q 14 f) N A U V X S t := rfl
theorem ma_26 {j : Nat} (hj : j < 60) : zaI r (zmk r c0 c1 c2 I J Q N A U V X S t) (r.1 + 26) (nI j) = some (Q 14 j) := zaI_of mc_26 hj (by decide)
theorem mw_26 {j : Nat} {v : Int32} (hj : j < 60) : zsI r (zmk r c0 c1 c2 I J Q N A U V X S t) (r.1 + 26) (nI j) v = some (zmk r c0 c1 c2 I J (va_up Q 14 (upd (Q 14) j v)) N A U V X S t) := (zsI_of mc_26 hj (by decide)).trans rfl
theorem mn_26 : zaN r (zmk r c0 c1 c2 I J Q N A U V X S t) (r.1 + 26) = some 60 := zaN_of mc_26
theorem mc_27 : (zmk r c0 c1 c2 I J Q N A U V X S t)[27]? = some (.inr (.inr (4, [.ref (r.1 + 28), .int (I 8)]))) := rfl
theorem mo_27 : zob r (zmk r c0 c1 c2 I J Q N A U V X S t) (r.1 + 27) 4 = true := zob_of mc_27
theorem mg_27_0 : zgR r (zmk r c0 c1 c2 I J Q N A U V X S t) (r.1 + 27) 4 0 = some (r.1 + 28) := zgR_of mc_27 rfl
theorem mg_27_1 : zgI r (zmk r c0 c1 c2 I J Q N A U V X S t) (r.1 + 27) 4 1 = some (I 8) := zgI_of mc_27 rfl
theorem mp_27_1 (v : Int32) : zpF r (zmk r c0 c1 c2 I J Q N A U V X S t) (r.1 + 27) 4 1 (.int v) = some (zmk r c0 c1 c2 (va_up I 8 v) J Q N A U V X S t) := (zpF_of mc_27 (Nat.le_of_ble_eq_true rfl)).trans rfl
theorem mc_28 : (zmk r c0 c1 c2 I J Q N A U V X S t)[28]? = some (.inl (60, Q 15)) := rfl
theorem ms_28 (f : Nat → Int32) : (zmk r c0 c1 c2 I J Q N A U V X S t).set 28 (.inl (60, f)) = zmk r c0 c1 c2 I J (va_up Q 15 f) N A U V X S t := rfl
theorem ma_28 {j : Nat} (hj : j < 60) : zaI r (zmk r c0 c1 c2 I J Q N A U V X S t) (r.1 + 28) (nI j) = some (Q 15 j) := zaI_of mc_28 hj (by decide)
theorem mw_28 {j : Nat} {v : Int32} (hj : j < 60) : zsI r (zmk r c0 c1 c2 I J Q N A U V X S t) (r.1 + 28) (nI j) v = some (zmk r c0 c1 c2 I J (va_up Q 15 (upd (Q 15) j v)) N A U V X S t) := (zsI_of mc_28 hj (by decide)).trans rfl
theorem mn_28 : zaN r (zmk r c0 c1 c2 I J Q N A U V X S t) (r.1 + 28) = some 60 := zaN_of mc_28
theorem mc_29 : (zmk r c0 c1 c2 I J Q N A U V X S t)[29]? = some (.inr (.inr (4, [.ref (r.1 + 30), .int (I 9)]))) := rfl
theorem mo_29 : zob r (zmk r c0 c1 c2 I J Q N A U V X S t) (r.1 + 29) 4 = true := zob_of mc_29
theorem mg_29_0 : zgR r (zmk r c0 c1 c2 I J Q N A U V X S t) (r.1 + 29) 4 0 = some (r.1 + 30) := zgR_of mc_29 rfl
theorem mg_29_1 : zgI r (zmk r c0 c1 c2 I J Q N A U V X S t) (r.1 + 29) 4 1 = some (I 9) := zgI_of mc_29 rfl
theorem mp_29_1 (v : Int32) : zpF r (zmk r c0 c1 c2 I J Q N A U V X S t) (r.1 + 29) 4 1 (.int v) = some (zmk r c0 c1 c2 (va_up I 9 v) J Q N A U V X S t) := (zpF_of mc_29 (Nat.le_of_ble_eq_true rfl)).trans rfl
theorem mc_30 : (zmk r c0 c1 c2 I J Q N A U V X S t)[30]? = some (.inl (60, Q 16)) := rfl
theorem ms_30 (f : Nat → Int32) : (zmk r c0 c1 c2 I J Q N A U V X S t).set 30 (.inl (60, f)) = zmk r c0 c1 c2 I J (va_up Q 16 f) N A U V X S t := rfl
theorem ma_30 {j : Nat} (hj : j < 60) : zaI r (zmk r c0 c1 c2 I J Q N A U V X S t) (r.1 + 30) (nI j) = some (Q 16 j) := zaI_of mc_30 hj (by decide)
theorem mw_30 {j : Nat} {v : Int32} (hj : j < 60) : zsI r (zmk r c0 c1 c2 I J Q N A U V X S t) (r.1 + 30) (nI j) v = some (zmk r c0 c1 c2 I J (va_up Q 16 (upd (Q 16) j v)) N A U V X S t) := (zsI_of mc_30 hj (by decide)).trans rfl
theorem mn_30 : zaN r (zmk r c0 c1 c2 I J Q N A U V X S t) (r.1 + 30) = some 60 := zaN_of mc_30
theorem mc_31 : (zmk r c0 c1 c2 I J Q N A U V X S t)[31]? = some (.inr (.inr (4, [.ref (r.1 + 32), .int (I 10)]))) := rfl
theorem mo_31 : zob r (zmk r c0 c1 c2 I J Q N A U V X S t) (r.1 + 31) 4 = true := zob_of mc_31
theorem mg_31_0 : zgR r (zmk r c0 c1 c2 I J Q N A U V X S t) (r.1 + 31) 4 0 = some (r.1 + 32) := zgR_of mc_31 rfl
theorem mg_31_1 : zgI r (zmk r c0 c1 c2 I J Q N A U V X S t) (r.1 + 31) 4 1 = some (I 10) := zgI_of mc_31 rfl
theorem mp_31_1 (v : Int32) : zpF r (zmk r c0 c1 c2 I J Q N A U V X S t) (r.1 + 31) 4 1 (.int v) = some (zmk r c0 c1 c2 (va_up I 10 v) J Q N A U V X S t) := (zpF_of mc_31 (Nat.le_of_ble_eq_true rfl)).trans rfl
theorem mc_32 : (zmk r c0 c1 c2 I J Q N A U V X S t)[32]? = some (.inl (60, Q 17)) := rfl
theorem ms_32 (f : Nat → Int32) : (zmk r c0 c1 c2 I J Q N A U V X S t).set 32 (.inl (60, f)) = zmk r c0 c1 c2 I J (va_up Q 17 f) N A U V X S t := rfl
theorem ma_32 {j : Nat} (hj : j < 60) : zaI r (zmk r c0 c1 c2 I J Q N A U V X S t) (r.1 + 32) (nI j) = some (Q 17 j) := zaI_of mc_32 hj (by decide)
theorem mw_32 {j : Nat} {v : Int32} (hj : j < 60) : zsI r (zmk r c0 c1 c2 I J Q N A U V X S t) (r.1 + 32) (nI j) v = some (zmk r c0 c1 c2 I J (va_up Q 17 (upd (Q 17) j v)) N A U V X S t) := (zsI_of mc_32 hj (by decide)).trans rfl
theorem mn_32 : zaN r (zmk r c0 c1 c2 I J Q N A U V X S t) (r.1 + 32) = some 60 := zaN_of mc_32
theorem mc_33 : (zmk r c0 c1 c2 I J Q N A U V X S t)[33]? = some (.inr (.inr (4, [.ref (r.1 + 34), .int (I 11)]))) := rfl
theorem mo_33 : zob r (zmk r c0 c1 c2 I J Q N A U V X S t) (r.1 + 33) 4 = true := zob_of mc_33
theorem mg_33_0 : zgR r (zmk r c0 c1 c2 I J Q N A U V X S t) (r.1 + 33) 4 0 = some (r.1 + 34) := zgR_of mc_33 rfl
theorem mg_33_1 : zgI r (zmk r c0 c1 c2 I J Q N A U V X S t) (r.1 + 33) 4 1 = some (I 11) := zgI_of mc_33 rfl
theorem mp_33_1 (v : Int32) : zpF r (zmk r c0 c1 c2 I J Q N A U V X S t) (r.1 + 33) 4 1 (.int v) = some (zmk r c0 c1 c2 (va_up I 11 v) J Q N A U V X S t) := (zpF_of mc_33 (Nat.le_of_ble_eq_true rfl)).trans rfl
theorem mc_34 : (zmk r c0 c1 c2 I J Q N A U V X S t)[34]? = some (.inl (60, Q 18)) := rfl
theorem ms_34 (f : Nat → Int32) : (zmk r c0 c1 c2 I J Q N A U V X S t).set 34 (.inl (60, f)) = zmk r c0 c1 c2 I J (va_up Q 18 f) N A U V X S t := rfl
theorem ma_34 {j : Nat} (hj : j < 60) : zaI r (zmk r c0 c1 c2 I J Q N A U V X S t) (r.1 + 34) (nI j) = some (Q 18 j) := zaI_of mc_34 hj (by decide)
theorem mw_34 {j : Nat} {v : Int32} (hj : j < 60) : zsI r (zmk r c0 c1 c2 I J Q N A U V X S t) (r.1 + 34) (nI j) v = some (zmk r c0 c1 c2 I J (va_up Q 18 (upd (Q 18) j v)) N A U V X S t) := (zsI_of mc_34 hj (by decide)).trans rfl
theorem mn_34 : zaN r (zmk r c0 c1 c2 I J Q N A U V X S t) (r.1 + 34) = some 60 := zaN_of mc_34
theorem mc_35 : (zmk r c0 c1 c2 I J Q N A U V X S t)[35]? = some (.inr (.inr (4, [.ref (r.1 + 36), .int (I 12)]))) := rfl
theorem mo_35 : zob r (zmk r c0 c1 c2 I J Q N A U V X S t) (r.1 + 35) 4 = true := zob_of mc_35
theorem mg_35_0 : zgR r (zmk r c0 c1 c2 I J Q N A U V X S t) (r.1 + 35) 4 0 = some (r.1 + 36) := zgR_of mc_35 rfl
theorem mg_35_1 : zgI r (zmk r c0 c1 c2 I J Q N A U V X S t) (r.1 + 35) 4 1 = some (I 12) := zgI_of mc_35 rfl
theorem mp_35_1 (v : Int32) : zpF r (zmk r c0 c1 c2 I J Q N A U V X S t) (r.1 + 35) 4 1 (.int v) = some (zmk r c0 c1 c2 (va_up I 12 v) J Q N A U V X S t) := (zpF_of mc_35 (Nat.le_of_ble_eq_true rfl)).trans rfl
theorem mc_36 : (zmk r c0 c1 c2 I J Q N A U V X S t)[36]? = some (.inl (60, Q 19)) := rfl
theorem ms_36 (f : Nat → Int32) : (zmk r c0 c1 c2 I J Q N A U V X S t).set 36 (.inl (60, f)) = zmk r c0 c1 c2 I J (va_up Q 19 f) N A U V X S t := rfl
theorem ma_36 {j : Nat} (hj : j < 60) : zaI r (zmk r c0 c1 c2 I J Q N A U V X S t) (r.1 + 36) (nI j) = some (Q 19 j) := zaI_of mc_36 hj (by decide)
theorem mw_36 {j : Nat} {v : Int32} (hj : j < 60) : zsI r (zmk r c0 c1 c2 I J Q N A U V X S t) (r.1 + 36) (nI j) v = some (zmk r c0 c1 c2 I J (va_up Q 19 (upd (Q 19) j v)) N A U V X S t) := (zsI_of mc_36 hj (by decide)).trans rfl
theorem mn_36 : zaN r (zmk r c0 c1 c2 I J Q N A U V X S t) (r.1 + 36) = some 60 := zaN_of mc_36
theorem mc_37 : (zmk r c0 c1 c2 I J Q N A U V X S t)[37]? = some (.inr (.inr (4, [.ref (r.1 + 38), .int (I 13)]))) := rfl
theorem mo_37 : zob r (zmk r c0 c1 c2 I J Q N A U V X S t) (r.1 + 37) 4 = true := zob_of mc_37
theorem mg_37_0 : zgR r (zmk r c0 c1 c2 I J Q N A U V X S t) (r.1 + 37) 4 0 = some (r.1 + 38) := zgR_of mc_37 rfl
theorem mg_37_1 : zgI r (zmk r c0 c1 c2 I J Q N A U V X S t) (r.1 + 37) 4 1 = some (I 13) := zgI_of mc_37 rfl
theorem mp_37_1 (v : Int32) : zpF r (zmk r c0 c1 c2 I J Q N A U V X S t) (r.1 + 37) 4 1 (.int v) = some (zmk r c0 c1 c2 (va_up I 13 v) J Q N A U V X S t) := (zpF_of mc_37 (Nat.le_of_ble_eq_true rfl)).trans rfl
theorem mc_38 : (zmk r c0 c1 c2 I J Q N A U V X S t)[38]? = some (.inl (60, Q 20)) := rfl
theorem ms_38 (f : Nat → Int32) : (zmk r c0 c1 c2 I J Q N A U V X S t).set 38 (.inl (60, f)) = zmk r c0 c1 c2 I J (va_up Q 20 f) N A U V X S t := rfl
theorem ma_38 {j : Nat} (hj : j < 60) : zaI r (zmk r c0 c1 c2 I J Q N A U V X S t) (r.1 + 38) (nI j) = some (Q 20 j) := zaI_of mc_38 hj (by decide)
theorem mw_38 {j : Nat} {v : Int32} (hj : j < 60) : zsI r (zmk r c0 c1 c2 I J Q N A U V X S t) (r.1 + 38) (nI j) v = some (zmk r c0 c1 c2 I J (va_up Q 20 (upd (Q 20) j v)) N A U V X S t) := (zsI_of mc_38 hj (by decide)).trans rfl
theorem mn_38 : zaN r (zmk r c0 c1 c2 I J Q N A U V X S t) (r.1 + 38) = some 60 := zaN_of mc_38
theorem mc_39 : (zmk r c0 c1 c2 I J Q N A U V X S t)[39]? = some (.inr (.inr (4, [.ref (r.1 + 40), .int (I 14)]))) := rfl
theorem mo_39 : zob r (zmk r c0 c1 c2 I J Q N A U V X S t) (r.1 + 39) 4 = true := zob_of mc_39
theorem mg_39_0 : zgR r (zmk r c0 c1 c2 I J Q N A U V X S t) (r.1 + 39) 4 0 = some (r.1 + 40) := zgR_of mc_39 rfl
theorem mg_39_1 : zgI r (zmk r c0 c1 c2 I J Q N A U V X S t) (r.1 + 39) 4 1 = some (I 14) := zgI_of mc_39 rfl
theorem mp_39_1 (v : Int32) : zpF r (zmk r c0 c1 c2 I J Q N A U V X S t) (r.1 + 39) 4 1 (.int v) = some (zmk r c0 c1 c2 (va_up I 14 v) J Q N A U V X S t) := (zpF_of mc_39 (Nat.le_of_ble_eq_true rfl)).trans rfl
theorem mc_40 : (zmk r c0 c1 c2 I J Q N A U V X S t)[40]? = some (.inl (60, Q 21)) := rfl
theorem ms_40 (f : Nat → Int32) : (zmk r c0 c1 c2 I J Q N A U V X S t).set 40 (.inl (60, f)) = zmk r c0 c1 c2 I J (va_up Q 21 f) N A U V X S t := rfl
theorem ma_40 {j : Nat} (hj : j < 60) : zaI r (zmk r c0 c1 c2 I J Q N A U V X S t) (r.1 + 40) (nI j) = some (Q 21 j) := zaI_of mc_40 hj (by decide)
theorem mw_40 {j : Nat} {v : Int32} (hj : j < 60) : zsI r (zmk r c0 c1 c2 I J Q N A U V X S t) (r.1 + 40) (nI j) v = some (zmk r c0 c1 c2 I J (va_up Q 21 (upd (Q 21) j v)) N A U V X S t) := (zsI_of mc_40 hj (by decide)).trans rfl
theorem mn_40 : zaN r (zmk r c0 c1 c2 I J Q N A U V X S t) (r.1 + 40) = some 60 := zaN_of mc_40
theorem mc_41 : (zmk r c0 c1 c2 I J Q N A U V X S t)[41]? = some (.inr (.inr (4, [.ref (r.1 + 42), .int (I 15)]))) := rfl
theorem mo_41 : zob r (zmk r c0 c1 c2 I J Q N A U V X S t) (r.1 + 41) 4 = true := zob_of mc_41
theorem mg_41_0 : zgR r (zmk r c0 c1 c2 I J Q N A U V X S t) (r.1 + 41) 4 0 = some (r.1 + 42) := zgR_of mc_41 rfl
theorem mg_41_1 : zgI r (zmk r c0 c1 c2 I J Q N A U V X S t) (r.1 + 41) 4 1 = some (I 15) := zgI_of mc_41 rfl
theorem mp_41_1 (v : Int32) : zpF r (zmk r c0 c1 c2 I J Q N A U V X S t) (r.1 + 41) 4 1 (.int v) = some (zmk r c0 c1 c2 (va_up I 15 v) J Q N A U V X S t) := (zpF_of mc_41 (Nat.le_of_ble_eq_true rfl)).trans rfl
theorem mc_42 : (zmk r c0 c1 c2 I J Q N A U V X S t)[42]? = some (.inl (60, Q 22)) := rfl
theorem ms_42 (f : Nat → Int32) : (zmk r c0 c1 c2 I J Q N A U V X S t).set 42 (.inl (60, f)) = zmk r c0 c1 c2 I J (va_up Q 22 f) N A U V X S t := rfl
theorem ma_42 {j : Nat} (hj : j < 60) : zaI r (zmk r c0 c1 c2 I J Q N A U V X S t) (r.1 + 42) (nI j) = some (Q 22 j) := zaI_of mc_42 hj (by decide)
theorem mw_42 {j : Nat} {v : Int32} (hj : j < 60) : zsI r (zmk r c0 c1 c2 I J Q N A U V X S t) (r.1 + 42) (nI j) v = some (zmk r c0 c1 c2 I J (va_up Q 22 (upd (Q 22) j v)) N A U V X S t) := (zsI_of mc_42 hj (by decide)).trans rfl
theorem mn_42 : zaN r (zmk r c0 c1 c2 I J Q N A U V X S t) (r.1 + 42) = some 60 := zaN_of mc_42
theorem mc_43 : (zmk r c0 c1 c2 I J Q N A U V X S t)[43]? = some (.inr (.inr (2, [.ref (r.1 + 44), .int (I 3)]))) := rfl
theorem mo_43 : zob r (zmk r c0 c1 c2 I J Q N A U V X S t) (r.1 + 43) 2 = true := zob_of mc_43
theorem mg_43_0 : zgR r (zmk r c0 c1 c2 I J Q N A U V X S t) (r.1 + 43) 2 0 = some (r.1 + 44) := zgR_of mc_43 rfl
theorem mg_43_1 : zgI r (zmk r c0 c1 c2 I J Q N A U V X S t) (r.1 + 43) 2 1 = some (I 3) := zgI_of mc_43 rfl
theorem mp_43_1 (v : Int32) : zpF r (zmk r c0 c1 c2 I J Q N A U V X S t) (r.1 + 43) 2 1 (.int v) = some (zmk r c0 c1 c2 (va_up I 3 v) J Q N A U V X S t) := (zpF_of mc_43 (Nat.le_of_ble_eq_true rfl)).trans rfl
theorem mc_44 : (zmk r c0 c1 c2 I J Q N A U V X S t)[44]? = some (.inl (1098, Q 10)) := rfl
theorem ms_44 (f : Nat → Int32) : (zmk r c0 c1 c2 I J Q N A U V X S t).set 44 (.inl (1098, f)) = zmk r c0 c1 c2 I J (va_up Q 10 f) N A U V X S t := rfl
theorem ma_44 {j : Nat} (hj : j < 1098) : zaI r (zmk r c0 c1 c2 I J Q N A U V X S t) (r.1 + 44) (nI j) = some (Q 10 j) := zaI_of mc_44 hj (by decide)
theorem mw_44 {j : Nat} {v : Int32} (hj : j < 1098) : zsI r (zmk r c0 c1 c2 I J Q N A U V X S t) (r.1 + 44) (nI j) v = some (zmk r c0 c1 c2 I J (va_up Q 10 (upd (Q 10) j v)) N A U V X S t) := (zsI_of mc_44 hj (by decide)).trans rfl
theorem mn_44 : zaN r (zmk r c0 c1 c2 I J Q N A U V X S t) (r.1 + 44) = some 1098 := zaN_of mc_44
theorem mc_45 : (zmk r c0 c1 c2 I J Q N A U V X S t)[45]? = some (.inr (.inr (2, [.ref (r.1 + 46), .int (I 4)]))) := rfl
theorem mo_45 : zob r (zmk r c0 c1 c2 I J Q N A U V X S t) (r.1 + 45) 2 = true := zob_of mc_45
theorem mg_45_0 : zgR r (zmk r c0 c1 c2 I J Q N A U V X S t) (r.1 + 45) 2 0 = some (r.1 + 46) := zgR_of mc_45 rfl
theorem mg_45_1 : zgI r (zmk r c0 c1 c2 I J Q N A U V X S t) (r.1 + 45) 2 1 = some (I 4) := zgI_of mc_45 rfl
theorem mp_45_1 (v : Int32) : zpF r (zmk r c0 c1 c2 I J Q N A U V X S t) (r.1 + 45) 2 1 (.int v) = some (zmk r c0 c1 c2 (va_up I 4 v) J Q N A U V X S t) := (zpF_of mc_45 (Nat.le_of_ble_eq_true rfl)).trans rfl
theorem mc_46 : (zmk r c0 c1 c2 I J Q N A U V X S t)[46]? = some (.inl (1098, Q 11)) := rfl
theorem ms_46 (f : Nat → Int32) : (zmk r c0 c1 c2 I J Q N A U V X S t).set 46 (.inl (1098, f)) = zmk r c0 c1 c2 I J (va_up Q 11 f) N A U V X S t := rfl
theorem ma_46 {j : Nat} (hj : j < 1098) : zaI r (zmk r c0 c1 c2 I J Q N A U V X S t) (r.1 + 46) (nI j) = some (Q 11 j) := zaI_of mc_46 hj (by decide)
theorem mw_46 {j : Nat} {v : Int32} (hj : j < 1098) : zsI r (zmk r c0 c1 c2 I J Q N A U V X S t) (r.1 + 46) (nI j) v = some (zmk r c0 c1 c2 I J (va_up Q 11 (upd (Q 11) j v)) N A U V X S t) := (zsI_of mc_46 hj (by decide)).trans rfl
theorem mn_46 : zaN r (zmk r c0 c1 c2 I J Q N A U V X S t) (r.1 + 46) = some 1098 := zaN_of mc_46
theorem mc_47 : (zmk r c0 c1 c2 I J Q N A U V X S t)[47]? = some (.inr (.inr (2, [.ref (r.1 + 48), .int (I 5)]))) := rfl
theorem mo_47 : zob r (zmk r c0 c1 c2 I J Q N A U V X S t) (r.1 + 47) 2 = true := zob_of mc_47
theorem mg_47_0 : zgR r (zmk r c0 c1 c2 I J Q N A U V X S t) (r.1 + 47) 2 0 = some (r.1 + 48) := zgR_of mc_47 rfl
theorem mg_47_1 : zgI r (zmk r c0 c1 c2 I J Q N A U V X S t) (r.1 + 47) 2 1 = some (I 5) := zgI_of mc_47 rfl
theorem mp_47_1 (v : Int32) : zpF r (zmk r c0 c1 c2 I J Q N A U V X S t) (r.1 + 47) 2 1 (.int v) = some (zmk r c0 c1 c2 (va_up I 5 v) J Q N A U V X S t) := (zpF_of mc_47 (Nat.le_of_ble_eq_true rfl)).trans rfl
theorem mc_48 : (zmk r c0 c1 c2 I J Q N A U V X S t)[48]? = some (.inl (1098, Q 12)) := rfl
theorem ms_48 (f : Nat → Int32) : (zmk r c0 c1 c2 I J Q N A U V X S t).set 48 (.inl (1098, f)) = zmk r c0 c1 c2 I J (va_up Q 12 f) N A U V X S t := rfl
theorem ma_48 {j : Nat} (hj : j < 1098) : zaI r (zmk r c0 c1 c2 I J Q N A U V X S t) (r.1 + 48) (nI j) = some (Q 12 j) := zaI_of mc_48 hj (by decide)
theorem mw_48 {j : Nat} {v : Int32} (hj : j < 1098) : zsI r (zmk r c0 c1 c2 I J Q N A U V X S t) (r.1 + 48) (nI j) v = some (zmk r c0 c1 c2 I J (va_up Q 12 (upd (Q 12) j v)) N A U V X S t) := (zsI_of mc_48 hj (by decide)).trans rfl
theorem mn_48 : zaN r (zmk r c0 c1 c2 I J Q N A U V X S t) (r.1 + 48) = some 1098 := zaN_of mc_48
theorem mc_49 : (zmk r c0 c1 c2 I J Q N A U V X S t)[49]? = some (.inr (.inr (6, [.ref (r.1 + 50), .int (U 0), .ref (r.1 + 51), .int (U 1), .ref (r.1 + 52), .ref (r.1 + 53), .ref (r.1 + 54), .ref (r.1 + 55), .ref (r.1 + 56), .ref (r.1 + 57), .ref (r.1 + 58), .int (U 2), .long (V 0), .long (V 1), .int (U 3), .ref (r.1 + 59), .int (U 4), .int (U 5), .int (U 6), .ref (r.1 + 60), .int (U 7), .ref (r.1 + 61), .int (U 8), .ref (r.1 + 62), .ref (r.1 + 63), .ref (r.1 + 64)]))) := rfl
theorem mo_49 : zob r (zmk r c0 c1 c2 I J Q N A U V X S t) (r.1 + 49) 6 = true := zob_of mc_49
theorem mg_49_0 : zgR r (zmk r c0 c1 c2 I J Q N A U V X S t) (r.1 + 49) 6 0 = some (r.1 + 50) := zgR_of mc_49 rfl
theorem mg_49_1 : zgI r (zmk r c0 c1 c2 I J Q N A U V X S t) (r.1 + 49) 6 1 = some (U 0) := zgI_of mc_49 rfl
theorem mp_49_1 (v : Int32) : zpF r (zmk r c0 c1 c2 I J Q N A U V X S t) (r.1 + 49) 6 1 (.int v) = some (zmk r c0 c1 c2 I J Q N A (va_up U 0 v) V X S t) := (zpF_of mc_49 (Nat.le_of_ble_eq_true rfl)).trans rfl
theorem mg_49_2 : zgR r (zmk r c0 c1 c2 I J Q N A U V X S t) (r.1 + 49) 6 2 = some (r.1 + 51) := zgR_of mc_49 rfl
theorem mg_49_3 : zgI r (zmk r c0 c1 c2 I J Q N A U V X S t) (r.1 + 49) 6 3 = some (U 1) := zgI_of mc_49 rfl
theorem mp_49_3 (v : Int32) : zpF r (zmk r c0 c1 c2 I J Q N A U V X S t) (r.1 + 49) 6 3 (.int v) = some (zmk r c0 c1 c2 I J Q N A (va_up U 1 v) V X S t) := (zpF_of mc_49 (Nat.le_of_ble_eq_true rfl)).trans rfl
theorem mg_49_4 : zgR r (zmk r c0 c1 c2 I J Q N A U V X S t) (r.1 + 49) 6 4 = some (r.1 + 52) := zgR_of mc_49 rfl
theorem mg_49_5 : zgR r (zmk r c0 c1 c2 I J Q N A U V X S t) (r.1 + 49) 6 5 = some (r.1 + 53) := zgR_of mc_49 rfl
theorem mg_49_6 : zgR r (zmk r c0 c1 c2 I J Q N A U V X S t) (r.1 + 49) 6 6 = some (r.1 + 54) := zgR_of mc_49 rfl
theorem mg_49_7 : zgR r (zmk r c0 c1 c2 I J Q N A U V X S t) (r.1 + 49) 6 7 = some (r.1 + 55) := zgR_of mc_49 rfl
theorem mg_49_8 : zgR r (zmk r c0 c1 c2 I J Q N A U V X S t) (r.1 + 49) 6 8 = some (r.1 + 56) := zgR_of mc_49 rfl
theorem mg_49_9 : zgR r (zmk r c0 c1 c2 I J Q N A U V X S t) (r.1 + 49) 6 9 = some (r.1 + 57) := zgR_of mc_49 rfl
theorem mg_49_10 : zgR r (zmk r c0 c1 c2 I J Q N A U V X S t) (r.1 + 49) 6 10 = some (r.1 + 58) := zgR_of mc_49 rfl
theorem mg_49_11 : zgI r (zmk r c0 c1 c2 I J Q N A U V X S t) (r.1 + 49) 6 11 = some (U 2) := zgI_of mc_49 rfl
theorem mp_49_11 (v : Int32) : zpF r (zmk r c0 c1 c2 I J Q N A U V X S t) (r.1 + 49) 6 11 (.int v) = some (zmk r c0 c1 c2 I J Q N A (va_up U 2 v) V X S t) := (zpF_of mc_49 (Nat.le_of_ble_eq_true rfl)).trans rfl
theorem mg_49_12 : zgL r (zmk r c0 c1 c2 I J Q N A U V X S t) (r.1 + 49) 6 12 = some (V 0) := zgL_of mc_49 rfl
theorem mp_49_12 (v : Int64) : zpF r (zmk r c0 c1 c2 I J Q N A U V X S t) (r.1 + 49) 6 12 (.long v) = some (zmk r c0 c1 c2 I J Q N A U (va_up V 0 v) X S t) := (zpF_of mc_49 (Nat.le_of_ble_eq_true rfl)).trans rfl
theorem mg_49_13 : zgL r (zmk r c0 c1 c2 I J Q N A U V X S t) (r.1 + 49) 6 13 = some (V 1) := zgL_of mc_49 rfl
theorem mp_49_13 (v : Int64) : zpF r (zmk r c0 c1 c2 I J Q N A U V X S t) (r.1 + 49) 6 13 (.long v) = some (zmk r c0 c1 c2 I J Q N A U (va_up V 1 v) X S t) := (zpF_of mc_49 (Nat.le_of_ble_eq_true rfl)).trans rfl
theorem mg_49_14 : zgI r (zmk r c0 c1 c2 I J Q N A U V X S t) (r.1 + 49) 6 14 = some (U 3) := zgI_of mc_49 rfl
theorem mp_49_14 (v : Int32) : zpF r (zmk r c0 c1 c2 I J Q N A U V X S t) (r.1 + 49) 6 14 (.int v) = some (zmk r c0 c1 c2 I J Q N A (va_up U 3 v) V X S t) := (zpF_of mc_49 (Nat.le_of_ble_eq_true rfl)).trans rfl
theorem mg_49_15 : zgR r (zmk r c0 c1 c2 I J Q N A U V X S t) (r.1 + 49) 6 15 = some (r.1 + 59) := zgR_of mc_49 rfl
theorem mg_49_16 : zgI r (zmk r c0 c1 c2 I J Q N A U V X S t) (r.1 + 49) 6 16 = some (U 4) := zgI_of mc_49 rfl
theorem mp_49_16 (v : Int32) : zpF r (zmk r c0 c1 c2 I J Q N A U V X S t) (r.1 + 49) 6 16 (.int v) = some (zmk r c0 c1 c2 I J Q N A (va_up U 4 v) V X S t) := (zpF_of mc_49 (Nat.le_of_ble_eq_true rfl)).trans rfl
theorem mg_49_17 : zgI r (zmk r c0 c1 c2 I J Q N A U V X S t) (r.1 + 49) 6 17 = some (U 5) := zgI_of mc_49 rfl
theorem mp_49_17 (v : Int32) : zpF r (zmk r c0 c1 c2 I J Q N A U V X S t) (r.1 + 49) 6 17 (.int v) = some (zmk r c0 c1 c2 I J Q N A (va_up U 5 v) V X S t) := (zpF_of mc_49 (Nat.le_of_ble_eq_true rfl)).trans rfl
theorem mg_49_18 : zgI r (zmk r c0 c1 c2 I J Q N A U V X S t) (r.1 + 49) 6 18 = some (U 6) := zgI_of mc_49 rfl
theorem mp_49_18 (v : Int32) : zpF r (zmk r c0 c1 c2 I J Q N A U V X S t) (r.1 + 49) 6 18 (.int v) = some (zmk r c0 c1 c2 I J Q N A (va_up U 6 v) V X S t) := (zpF_of mc_49 (Nat.le_of_ble_eq_true rfl)).trans rfl
theorem mg_49_19 : zgR r (zmk r c0 c1 c2 I J Q N A U V X S t) (r.1 + 49) 6 19 = some (r.1 + 60) := zgR_of mc_49 rfl
theorem mg_49_20 : zgI r (zmk r c0 c1 c2 I J Q N A U V X S t) (r.1 + 49) 6 20 = some (U 7) := zgI_of mc_49 rfl
theorem mp_49_20 (v : Int32) : zpF r (zmk r c0 c1 c2 I J Q N A U V X S t) (r.1 + 49) 6 20 (.int v) = some (zmk r c0 c1 c2 I J Q N A (va_up U 7 v) V X S t) := (zpF_of mc_49 (Nat.le_of_ble_eq_true rfl)).trans rfl
theorem mg_49_21 : zgR r (zmk r c0 c1 c2 I J Q N A U V X S t) (r.1 + 49) 6 21 = some (r.1 + 61) := zgR_of mc_49 rfl
theorem mg_49_22 : zgI r (zmk r c0 c1 c2 I J Q N A U V X S t) (r.1 + 49) 6 22 = some (U 8) := zgI_of mc_49 rfl
theorem mp_49_22 (v : Int32) : zpF r (zmk r c0 c1 c2 I J Q N A U V X S t) (r.1 + 49) 6 22 (.int v) = some (zmk r c0 c1 c2 I J Q N A (va_up U 8 v) V X S t) := (zpF_of mc_49 (Nat.le_of_ble_eq_true rfl)).trans rfl
theorem mg_49_23 : zgR r (zmk r c0 c1 c2 I J Q N A U V X S t) (r.1 + 49) 6 23 = some (r.1 + 62) := zgR_of mc_49 rfl
theorem mg_49_24 : zgR r (zmk r c0 c1 c2 I J Q N A U V X S t) (r.1 + 49) 6 24 = some (r.1 + 63) := zgR_of mc_49 rfl
theorem mg_49_25 : zgR r (zmk r c0 c1 c2 I J Q N A U V X S t) (r.1 + 49) 6 25 = some (r.1 + 64) := zgR_of mc_49 rfl
theorem mc_50 : (zmk r c0 c1 c2 I J Q N A U V X S t)[50]? = some (.inl (4396, X 0)) := rfl
theorem ms_50 (f : Nat → Int32) : (zmk r c0 c1 c2 I J Q N A U V X S t).set 50 (.inl (4396, f)) = zmk r c0 c1 c2 I J Q N A U V (va_up X 0 f) S t := rfl
theorem ma_50 {j : Nat} (hj : j < 4396) : zaI r (zmk r c0 c1 c2 I J Q N A U V X S t) (r.1 + 50) (nI j) = some (X 0 j) := zaI_of mc_50 hj (by decide)
theorem mw_50 {j : Nat} {v : Int32} (hj : j < 4396) : zsI r (zmk r c0 c1 c2 I J Q N A U V X S t) (r.1 + 50) (nI j) v = some (zmk r c0 c1 c2 I J Q N A U V (va_up X 0 (upd (X 0) j v)) S t) := (zsI_of mc_50 hj (by decide)).trans rfl
theorem mn_50 : zaN r (zmk r c0 c1 c2 I J Q N A U V X S t) (r.1 + 50) = some 4396 := zaN_of mc_50
theorem mc_51 : (zmk r c0 c1 c2 I J Q N A U V X S t)[51]? = some (.inl (7, X 1)) := rfl
theorem ms_51 (f : Nat → Int32) : (zmk r c0 c1 c2 I J Q N A U V X S t).set 51 (.inl (7, f)) = zmk r c0 c1 c2 I J Q N A U V (va_up X 1 f) S t := rfl
theorem ma_51 {j : Nat} (hj : j < 7) : zaI r (zmk r c0 c1 c2 I J Q N A U V X S t) (r.1 + 51) (nI j) = some (X 1 j) := zaI_of mc_51 hj (by decide)
theorem mw_51 {j : Nat} {v : Int32} (hj : j < 7) : zsI r (zmk r c0 c1 c2 I J Q N A U V X S t) (r.1 + 51) (nI j) v = some (zmk r c0 c1 c2 I J Q N A U V (va_up X 1 (upd (X 1) j v)) S t) := (zsI_of mc_51 hj (by decide)).trans rfl
theorem mn_51 : zaN r (zmk r c0 c1 c2 I J Q N A U V X S t) (r.1 + 51) = some 7 := zaN_of mc_51
theorem mc_52 : (zmk r c0 c1 c2 I J Q N A U V X S t)[52]? = some (.inl (6, X 2)) := rfl
theorem ms_52 (f : Nat → Int32) : (zmk r c0 c1 c2 I J Q N A U V X S t).set 52 (.inl (6, f)) = zmk r c0 c1 c2 I J Q N A U V (va_up X 2 f) S t := rfl
theorem ma_52 {j : Nat} (hj : j < 6) : zaI r (zmk r c0 c1 c2 I J Q N A U V X S t) (r.1 + 52) (nI j) = some (X 2 j) := zaI_of mc_52 hj (by decide)
theorem mw_52 {j : Nat} {v : Int32} (hj : j < 6) : zsI r (zmk r c0 c1 c2 I J Q N A U V X S t) (r.1 + 52) (nI j) v = some (zmk r c0 c1 c2 I J Q N A U V (va_up X 2 (upd (X 2) j v)) S t) := (zsI_of mc_52 hj (by decide)).trans rfl
theorem mn_52 : zaN r (zmk r c0 c1 c2 I J Q N A U V X S t) (r.1 + 52) = some 6 := zaN_of mc_52
theorem mc_53 : (zmk r c0 c1 c2 I J Q N A U V X S t)[53]? = some (.inl (6, X 3)) := rfl
theorem ms_53 (f : Nat → Int32) : (zmk r c0 c1 c2 I J Q N A U V X S t).set 53 (.inl (6, f)) = zmk r c0 c1 c2 I J Q N A U V (va_up X 3 f) S t := rfl
theorem ma_53 {j : Nat} (hj : j < 6) : zaI r (zmk r c0 c1 c2 I J Q N A U V X S t) (r.1 + 53) (nI j) = some (X 3 j) := zaI_of mc_53 hj (by decide)
theorem mw_53 {j : Nat} {v : Int32} (hj : j < 6) : zsI r (zmk r c0 c1 c2 I J Q N A U V X S t) (r.1 + 53) (nI j) v = some (zmk r c0 c1 c2 I J Q N A U V (va_up X 3 (upd (X 3) j v)) S t) := (zsI_of mc_53 hj (by decide)).trans rfl
theorem mn_53 : zaN r (zmk r c0 c1 c2 I J Q N A U V X S t) (r.1 + 53) = some 6 := zaN_of mc_53
theorem mc_54 : (zmk r c0 c1 c2 I J Q N A U V X S t)[54]? = some (.inl (6, X 4)) := rfl
theorem ms_54 (f : Nat → Int32) : (zmk r c0 c1 c2 I J Q N A U V X S t).set 54 (.inl (6, f)) = zmk r c0 c1 c2 I J Q N A U V (va_up X 4 f) S t := rfl
theorem ma_54 {j : Nat} (hj : j < 6) : zaI r (zmk r c0 c1 c2 I J Q N A U V X S t) (r.1 + 54) (nI j) = some (X 4 j) := zaI_of mc_54 hj (by decide)
theorem mw_54 {j : Nat} {v : Int32} (hj : j < 6) : zsI r (zmk r c0 c1 c2 I J Q N A U V X S t) (r.1 + 54) (nI j) v = some (zmk r c0 c1 c2 I J Q N A U V (va_up X 4 (upd (X 4) j v)) S t) := (zsI_of mc_54 hj (by decide)).trans rfl
theorem mn_54 : zaN r (zmk r c0 c1 c2 I J Q N A U V X S t) (r.1 + 54) = some 6 := zaN_of mc_54
theorem mc_55 : (zmk r c0 c1 c2 I J Q N A U V X S t)[55]? = some (.inl (6, X 5)) := rfl
theorem ms_55 (f : Nat → Int32) : (zmk r c0 c1 c2 I J Q N A U V X S t).set 55 (.inl (6, f)) = zmk r c0 c1 c2 I J Q N A U V (va_up X 5 f) S t := rfl
theorem ma_55 {j : Nat} (hj : j < 6) : zaI r (zmk r c0 c1 c2 I J Q N A U V X S t) (r.1 + 55) (nI j) = some (X 5 j) := zaI_of mc_55 hj (by decide)
theorem mw_55 {j : Nat} {v : Int32} (hj : j < 6) : zsI r (zmk r c0 c1 c2 I J Q N A U V X S t) (r.1 + 55) (nI j) v = some (zmk r c0 c1 c2 I J Q N A U V (va_up X 5 (upd (X 5) j v)) S t) := (zsI_of mc_55 hj (by decide)).trans rfl
theorem mn_55 : zaN r (zmk r c0 c1 c2 I J Q N A U V X S t) (r.1 + 55) = some 6 := zaN_of mc_55
theorem mc_56 : (zmk r c0 c1 c2 I J Q N A U V X S t)[56]? = some (.inl (240, X 6)) := rfl
theorem ms_56 (f : Nat → Int32) : (zmk r c0 c1 c2 I J Q N A U V X S t).set 56 (.inl (240, f)) = zmk r c0 c1 c2 I J Q N A U V (va_up X 6 f) S t := rfl
theorem ma_56 {j : Nat} (hj : j < 240) : zaI r (zmk r c0 c1 c2 I J Q N A U V X S t) (r.1 + 56) (nI j) = some (X 6 j) := zaI_of mc_56 hj (by decide)
theorem mw_56 {j : Nat} {v : Int32} (hj : j < 240) : zsI r (zmk r c0 c1 c2 I J Q N A U V X S t) (r.1 + 56) (nI j) v = some (zmk r c0 c1 c2 I J Q N A U V (va_up X 6 (upd (X 6) j v)) S t) := (zsI_of mc_56 hj (by decide)).trans rfl
theorem mn_56 : zaN r (zmk r c0 c1 c2 I J Q N A U V X S t) (r.1 + 56) = some 240 := zaN_of mc_56
theorem mc_57 : (zmk r c0 c1 c2 I J Q N A U V X S t)[57]? = some (.inl (4, X 7)) := rfl
theorem ms_57 (f : Nat → Int32) : (zmk r c0 c1 c2 I J Q N A U V X S t).set 57 (.inl (4, f)) = zmk r c0 c1 c2 I J Q N A U V (va_up X 7 f) S t := rfl
theorem ma_57 {j : Nat} (hj : j < 4) : zaI r (zmk r c0 c1 c2 I J Q N A U V X S t) (r.1 + 57) (nI j) = some (X 7 j) := zaI_of mc_57 hj (by decide)
theorem mw_57 {j : Nat} {v : Int32} (hj : j < 4) : zsI r (zmk r c0 c1 c2 I J Q N A U V X S t) (r.1 + 57) (nI j) v = some (zmk r c0 c1 c2 I J Q N A U V (va_up X 7 (upd (X 7) j v)) S t) := (zsI_of mc_57 hj (by decide)).trans rfl
theorem mn_57 : zaN r (zmk r c0 c1 c2 I J Q N A U V X S t) (r.1 + 57) = some 4 := zaN_of mc_57
theorem mc_58 : (zmk r c0 c1 c2 I J Q N A U V X S t)[58]? = some (.inl (240, X 8)) := rfl
theorem ms_58 (f : Nat → Int32) : (zmk r c0 c1 c2 I J Q N A U V X S t).set 58 (.inl (240, f)) = zmk r c0 c1 c2 I J Q N A U V (va_up X 8 f) S t := rfl
theorem ma_58 {j : Nat} (hj : j < 240) : zaI r (zmk r c0 c1 c2 I J Q N A U V X S t) (r.1 + 58) (nI j) = some (X 8 j) := zaI_of mc_58 hj (by decide)
theorem mw_58 {j : Nat} {v : Int32} (hj : j < 240) : zsI r (zmk r c0 c1 c2 I J Q N A U V X S t) (r.1 + 58) (nI j) v = some (zmk r c0 c1 c2 I J Q N A U V (va_up X 8 (upd (X 8) j v)) S t) := (zsI_of mc_58 hj (by decide)).trans rfl
theorem mn_58 : zaN r (zmk r c0 c1 c2 I J Q N A U V X S t) (r.1 + 58) = some 240 := zaN_of mc_58
theorem mc_59 : (zmk r c0 c1 c2 I J Q N A U V X S t)[59]? = some (.inl (6, X 9)) := rfl
theorem ms_59 (f : Nat → Int32) : (zmk r c0 c1 c2 I J Q N A U V X S t).set 59 (.inl (6, f)) = zmk r c0 c1 c2 I J Q N A U V (va_up X 9 f) S t := rfl
theorem ma_59 {j : Nat} (hj : j < 6) : zaI r (zmk r c0 c1 c2 I J Q N A U V X S t) (r.1 + 59) (nI j) = some (X 9 j) := zaI_of mc_59 hj (by decide)
theorem mw_59 {j : Nat} {v : Int32} (hj : j < 6) : zsI r (zmk r c0 c1 c2 I J Q N A U V X S t) (r.1 + 59) (nI j) v = some (zmk r c0 c1 c2 I J Q N A U V (va_up X 9 (upd (X 9) j v)) S t) := (zsI_of mc_59 hj (by decide)).trans rfl
theorem mn_59 : zaN r (zmk r c0 c1 c2 I J Q N A U V X S t) (r.1 + 59) = some 6 := zaN_of mc_59
theorem mc_60 : (zmk r c0 c1 c2 I J Q N A U V X S t)[60]? = some (.inl (7, X 10)) := rfl
theorem ms_60 (f : Nat → Int32) : (zmk r c0 c1 c2 I J Q N A U V X S t).set 60 (.inl (7, f)) = zmk r c0 c1 c2 I J Q N A U V (va_up X 10 f) S t := rfl
theorem ma_60 {j : Nat} (hj : j < 7) : zaI r (zmk r c0 c1 c2 I J Q N A U V X S t) (r.1 + 60) (nI j) = some (X 10 j) := zaI_of mc_60 hj (by decide)
theorem mw_60 {j : Nat} {v : Int32} (hj : j < 7) : zsI r (zmk r c0 c1 c2 I J Q N A U V X S t) (r.1 + 60) (nI j) v = some (zmk r c0 c1 c2 I J Q N A U V (va_up X 10 (upd (X 10) j v)) S t) := (zsI_of mc_60 hj (by decide)).trans rfl
theorem mn_60 : zaN r (zmk r c0 c1 c2 I J Q N A U V X S t) (r.1 + 60) = some 7 := zaN_of mc_60
theorem mc_61 : (zmk r c0 c1 c2 I J Q N A U V X S t)[61]? = some (.inl (24, X 11)) := rfl
theorem ms_61 (f : Nat → Int32) : (zmk r c0 c1 c2 I J Q N A U V X S t).set 61 (.inl (24, f)) = zmk r c0 c1 c2 I J Q N A U V (va_up X 11 f) S t := rfl
theorem ma_61 {j : Nat} (hj : j < 24) : zaI r (zmk r c0 c1 c2 I J Q N A U V X S t) (r.1 + 61) (nI j) = some (X 11 j) := zaI_of mc_61 hj (by decide)
theorem mw_61 {j : Nat} {v : Int32} (hj : j < 24) : zsI r (zmk r c0 c1 c2 I J Q N A U V X S t) (r.1 + 61) (nI j) v = some (zmk r c0 c1 c2 I J Q N A U V (va_up X 11 (upd (X 11) j v)) S t) := (zsI_of mc_61 hj (by decide)).trans rfl
theorem mn_61 : zaN r (zmk r c0 c1 c2 I J Q N A U V X S t) (r.1 + 61) = some 24 := zaN_of mc_61
theorem mc_62 : (zmk r c0 c1 c2 I J Q N A U V X S t)[62]? = some (.inl (6, S.1)) := rfl
theorem ms_62 (f : Nat → Int32) : (zmk r c0 c1 c2 I J Q N A U V X S t).set 62 (.inl (6, f)) = zmk r c0 c1 c2 I J Q N A U V X (f, S.2.1, S.2.2) t := rfl
theorem ma_62 {j : Nat} (hj : j < 6) : zaI r (zmk r c0 c1 c2 I J Q N A U V X S t) (r.1 + 62) (nI j) = some (S.1 j) := zaI_of mc_62 hj (by decide)
theorem mw_62 {j : Nat} {v : Int32} (hj : j < 6) : zsI r (zmk r c0 c1 c2 I J Q N A U V X S t) (r.1 + 62) (nI j) v = some (zmk r c0 c1 c2 I J Q N A U V X (upd (S.1) j v, S.2.1, S.2.2) t) := (zsI_of mc_62 hj (by decide)).trans rfl
theorem mn_62 : zaN r (zmk r c0 c1 c2 I J Q N A U V X S t) (r.1 + 62) = some 6 := zaN_of mc_62
theorem mc_63 : (zmk r c0 c1 c2 I J Q N A U V X S t)[63]? = some (.inl (6, S.2.1)) := rfl
theorem ms_63 (f : Nat → Int32) : (zmk r c0 c1 c2 I J Q N A U V X S t).set 63 (.inl (6, f)) = zmk r c0 c1 c2 I J Q N A U V X (S.1, f, S.2.2) t := rfl
theorem ma_63 {j : Nat} (hj : j < 6) : zaI r (zmk r c0 c1 c2 I J Q N A U V X S t) (r.1 + 63) (nI j) = some (S.2.1 j) := zaI_of mc_63 hj (by decide)
theorem mw_63 {j : Nat} {v : Int32} (hj : j < 6) : zsI r (zmk r c0 c1 c2 I J Q N A U V X S t) (r.1 + 63) (nI j) v = some (zmk r c0 c1 c2 I J Q N A U V X (S.1, upd (S.2.1) j v, S.2.2) t) := (zsI_of mc_63 hj (by decide)).trans rfl
theorem mn_63 : zaN r (zmk r c0 c1 c2 I J Q N A U V X S t) (r.1 + 63) = some 6 := zaN_of mc_63
theorem mc_64 : (zmk r c0 c1 c2 I J Q N A U V X S t)[64]? = some (.inl (6, S.2.2)) := rfl
theorem ms_64 (f : Nat → Int32) : (zmk r c0 c1 c2 I J Q N A U V X S t).set 64 (.inl (6, f)) = zmk r c0 c1 c2 I J Q N A U V X (S.1, S.2.1, f) t := rfl
theorem ma_64 {j : Nat} (hj : j < 6) : zaI r (zmk r c0 c1 c2 I J Q N A U V X S t) (r.1 + 64) (nI j) = some (S.2.2 j) := zaI_of mc_64 hj (by decide)
theorem mw_64 {j : Nat} {v : Int32} (hj : j < 6) : zsI r (zmk r c0 c1 c2 I J Q N A U V X S t) (r.1 + 64) (nI j) v = some (zmk r c0 c1 c2 I J Q N A U V X (S.1, S.2.1, upd (S.2.2) j v) t) := (zsI_of mc_64 hj (by decide)).trans rfl
theorem mn_64 : zaN r (zmk r c0 c1 c2 I J Q N A U V X S t) (r.1 + 64) = some 6 := zaN_of mc_64
theorem mo_r {j : Nat} (hj : j < 6) : zob r (zmk r c0 c1 c2 I J Q N A U V X S t) (r.1 + 23 + 2 * j) 4 = true := by
  match j, hj with
  | 0, _ => exact mo_23
  | 1, _ => exact mo_25
  | 2, _ => exact mo_27
  | 3, _ => exact mo_29
  | 4, _ => exact mo_31
  | 5, _ => exact mo_33
  | k + 6, h => exact absurd h (by omega)
theorem mgv_r {j : Nat} (hj : j < 6) : zgR r (zmk r c0 c1 c2 I J Q N A U V X S t) (r.1 + 23 + 2 * j) 4 0 = some (r.1 + (24 + 2 * j)) := by
  match j, hj with
  | 0, _ => exact mg_23_0
  | 1, _ => exact mg_25_0
  | 2, _ => exact mg_27_0
  | 3, _ => exact mg_29_0
  | 4, _ => exact mg_31_0
  | 5, _ => exact mg_33_0
  | k + 6, h => exact absurd h (by omega)
theorem mgs_r {j : Nat} (hj : j < 6) : zgI r (zmk r c0 c1 c2 I J Q N A U V X S t) (r.1 + 23 + 2 * j) 4 1 = some (I (6 + j)) := by
  match j, hj with
  | 0, _ => exact mg_23_1
  | 1, _ => exact mg_25_1
  | 2, _ => exact mg_27_1
  | 3, _ => exact mg_29_1
  | 4, _ => exact mg_31_1
  | 5, _ => exact mg_33_1
  | k + 6, h => exact absurd h (by omega)
theorem mps_r {j : Nat} {v : Int32} (hj : j < 6) : zpF r (zmk r c0 c1 c2 I J Q N A U V X S t) (r.1 + 23 + 2 * j) 4 1 (.int v) = some (zmk r c0 c1 c2 (va_up I (6 + j) v) J Q N A U V X S t) := by
  match j, hj with
  | 0, _ => exact mp_23_1 v
  | 1, _ => exact mp_25_1 v
  | 2, _ => exact mp_27_1 v
  | 3, _ => exact mp_29_1 v
  | 4, _ => exact mp_31_1 v
  | 5, _ => exact mp_33_1 v
  | k + 6, h => exact absurd h (by omega)
theorem mcv_r {j : Nat} (hj : j < 6) : (zmk r c0 c1 c2 I J Q N A U V X S t)[24 + 2 * j]? = some (.inl (60, Q (13 + j))) := by
  match j, hj with
  | 0, _ => exact rfl
  | 1, _ => exact rfl
  | 2, _ => exact rfl
  | 3, _ => exact rfl
  | 4, _ => exact rfl
  | 5, _ => exact rfl
  | k + 6, h => exact absurd h (by omega)
theorem msv_r {j : Nat} (hj : j < 6) (f : Nat → Int32) : (zmk r c0 c1 c2 I J Q N A U V X S t).set (24 + 2 * j) (.inl (60, f)) = zmk r c0 c1 c2 I J (va_up Q (13 + j) f) N A U V X S t := by
  match j, hj with
  | 0, _ => exact rfl
  | 1, _ => exact rfl
  | 2, _ => exact rfl
  | 3, _ => exact rfl
  | 4, _ => exact rfl
  | 5, _ => exact rfl
  | k + 6, h => exact absurd h (by omega)
theorem mav_r {j i : Nat} (hj : j < 6) (hi : i < 60) : zaI r (zmk r c0 c1 c2 I J Q N A U V X S t) (r.1 + (24 + 2 * j)) (nI i) = some (Q (13 + j) i) := zaI_of (mcv_r hj) hi (by omega)
theorem mwv_r {j i : Nat} {v : Int32} (hj : j < 6) (hi : i < 60) : zsI r (zmk r c0 c1 c2 I J Q N A U V X S t) (r.1 + (24 + 2 * j)) (nI i) v = some (zmk r c0 c1 c2 I J (va_up Q (13 + j) (upd (Q (13 + j)) i v)) N A U V X S t) := (zsI_of (mcv_r hj) hi (by omega)).trans (congrArg some (msv_r hj _))
theorem mnv_r {j : Nat} (hj : j < 6) : zaN r (zmk r c0 c1 c2 I J Q N A U V X S t) (r.1 + (24 + 2 * j)) = some 60 := zaN_of (mcv_r hj)
theorem mo_t {j : Nat} (hj : j < 4) : zob r (zmk r c0 c1 c2 I J Q N A U V X S t) (r.1 + 35 + 2 * j) 4 = true := by
  match j, hj with
  | 0, _ => exact mo_35
  | 1, _ => exact mo_37
  | 2, _ => exact mo_39
  | 3, _ => exact mo_41
  | k + 4, h => exact absurd h (by omega)
theorem mgv_t {j : Nat} (hj : j < 4) : zgR r (zmk r c0 c1 c2 I J Q N A U V X S t) (r.1 + 35 + 2 * j) 4 0 = some (r.1 + (36 + 2 * j)) := by
  match j, hj with
  | 0, _ => exact mg_35_0
  | 1, _ => exact mg_37_0
  | 2, _ => exact mg_39_0
  | 3, _ => exact mg_41_0
  | k + 4, h => exact absurd h (by omega)
theorem mgs_t {j : Nat} (hj : j < 4) : zgI r (zmk r c0 c1 c2 I J Q N A U V X S t) (r.1 + 35 + 2 * j) 4 1 = some (I (12 + j)) := by
  match j, hj with
  | 0, _ => exact mg_35_1
  | 1, _ => exact mg_37_1
  | 2, _ => exact mg_39_1
  | 3, _ => exact mg_41_1
  | k + 4, h => exact absurd h (by omega)
theorem mps_t {j : Nat} {v : Int32} (hj : j < 4) : zpF r (zmk r c0 c1 c2 I J Q N A U V X S t) (r.1 + 35 + 2 * j) 4 1 (.int v) = some (zmk r c0 c1 c2 (va_up I (12 + j) v) J Q N A U V X S t) := by
  match j, hj with
  | 0, _ => exact mp_35_1 v
  | 1, _ => exact mp_37_1 v
  | 2, _ => exact mp_39_1 v
  | 3, _ => exact mp_41_1 v
  | k + 4, h => exact absurd h (by omega)
theorem mcv_t {j : Nat} (hj : j < 4) : (zmk r c0 c1 c2 I J Q N A U V X S t)[36 + 2 * j]? = some (.inl (60, Q (19 + j))) := by
  match j, hj with
  | 0, _ => exact rfl
  | 1, _ => exact rfl
  | 2, _ => exact rfl
  | 3, _ => exact rfl
  | k + 4, h => exact absurd h (by omega)
theorem msv_t {j : Nat} (hj : j < 4) (f : Nat → Int32) : (zmk r c0 c1 c2 I J Q N A U V X S t).set (36 + 2 * j) (.inl (60, f)) = zmk r c0 c1 c2 I J (va_up Q (19 + j) f) N A U V X S t := by
  match j, hj with
  | 0, _ => exact rfl
  | 1, _ => exact rfl
  | 2, _ => exact rfl
  | 3, _ => exact rfl
  | k + 4, h => exact absurd h (by omega)
theorem mav_t {j i : Nat} (hj : j < 4) (hi : i < 60) : zaI r (zmk r c0 c1 c2 I J Q N A U V X S t) (r.1 + (36 + 2 * j)) (nI i) = some (Q (19 + j) i) := zaI_of (mcv_t hj) hi (by omega)
theorem mwv_t {j i : Nat} {v : Int32} (hj : j < 4) (hi : i < 60) : zsI r (zmk r c0 c1 c2 I J Q N A U V X S t) (r.1 + (36 + 2 * j)) (nI i) v = some (zmk r c0 c1 c2 I J (va_up Q (19 + j) (upd (Q (19 + j)) i v)) N A U V X S t) := (zsI_of (mcv_t hj) hi (by omega)).trans (congrArg some (msv_t hj _))
theorem mnv_t {j : Nat} (hj : j < 4) : zaN r (zmk r c0 c1 c2 I J Q N A U V X S t) (r.1 + (36 + 2 * j)) = some 60 := zaN_of (mcv_t hj)
theorem mo_k {j : Nat} (hj : j < 3) : zob r (zmk r c0 c1 c2 I J Q N A U V X S t) (r.1 + 43 + 2 * j) 2 = true := by
  match j, hj with
  | 0, _ => exact mo_43
  | 1, _ => exact mo_45
  | 2, _ => exact mo_47
  | k + 3, h => exact absurd h (by omega)
theorem mgv_k {j : Nat} (hj : j < 3) : zgR r (zmk r c0 c1 c2 I J Q N A U V X S t) (r.1 + 43 + 2 * j) 2 0 = some (r.1 + (44 + 2 * j)) := by
  match j, hj with
  | 0, _ => exact mg_43_0
  | 1, _ => exact mg_45_0
  | 2, _ => exact mg_47_0
  | k + 3, h => exact absurd h (by omega)
theorem mgs_k {j : Nat} (hj : j < 3) : zgI r (zmk r c0 c1 c2 I J Q N A U V X S t) (r.1 + 43 + 2 * j) 2 1 = some (I (3 + j)) := by
  match j, hj with
  | 0, _ => exact mg_43_1
  | 1, _ => exact mg_45_1
  | 2, _ => exact mg_47_1
  | k + 3, h => exact absurd h (by omega)
theorem mps_k {j : Nat} {v : Int32} (hj : j < 3) : zpF r (zmk r c0 c1 c2 I J Q N A U V X S t) (r.1 + 43 + 2 * j) 2 1 (.int v) = some (zmk r c0 c1 c2 (va_up I (3 + j) v) J Q N A U V X S t) := by
  match j, hj with
  | 0, _ => exact mp_43_1 v
  | 1, _ => exact mp_45_1 v
  | 2, _ => exact mp_47_1 v
  | k + 3, h => exact absurd h (by omega)
theorem mcv_k {j : Nat} (hj : j < 3) : (zmk r c0 c1 c2 I J Q N A U V X S t)[44 + 2 * j]? = some (.inl (1098, Q (10 + j))) := by
  match j, hj with
  | 0, _ => exact rfl
  | 1, _ => exact rfl
  | 2, _ => exact rfl
  | k + 3, h => exact absurd h (by omega)
theorem msv_k {j : Nat} (hj : j < 3) (f : Nat → Int32) : (zmk r c0 c1 c2 I J Q N A U V X S t).set (44 + 2 * j) (.inl (1098, f)) = zmk r c0 c1 c2 I J (va_up Q (10 + j) f) N A U V X S t := by
  match j, hj with
  | 0, _ => exact rfl
  | 1, _ => exact rfl
  | 2, _ => exact rfl
  | k + 3, h => exact absurd h (by omega)
theorem mav_k {j i : Nat} (hj : j < 3) (hi : i < 1098) : zaI r (zmk r c0 c1 c2 I J Q N A U V X S t) (r.1 + (44 + 2 * j)) (nI i) = some (Q (10 + j) i) := zaI_of (mcv_k hj) hi (by omega)
theorem mwv_k {j i : Nat} {v : Int32} (hj : j < 3) (hi : i < 1098) : zsI r (zmk r c0 c1 c2 I J Q N A U V X S t) (r.1 + (44 + 2 * j)) (nI i) v = some (zmk r c0 c1 c2 I J (va_up Q (10 + j) (upd (Q (10 + j)) i v)) N A U V X S t) := (zsI_of (mcv_k hj) hi (by omega)).trans (congrArg some (msv_k hj _))
theorem mnv_k {j : Nat} (hj : j < 3) : zaN r (zmk r c0 c1 c2 I J Q N A U V X S t) (r.1 + (44 + 2 * j)) = some 1098 := zaN_of (mcv_k hj)
end ZMK
