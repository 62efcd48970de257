/-! THE HEAP AS IT ALWAYS LOOKS (printed by wip/p48/gen25.py) -/
/-- how one hangs: hooks, holders, lines, tired -/
abbrev zBr : Type := (Nat → Int32) × (Nat → Int32) × (Nat → Int32) × (Nat → Int32)
def zrf (b n : Nat) : Nat → Option Nat := fun j => if j < n then some (b + 2 * j) else none
def zmk (r : zE) (c0 c1 c2 : Nat) (I : Nat → Int32) (J : Nat → Int64) (Q : Nat → Nat → Int32) (N A : zBr) (Ga Va : Nat → Int32) (t : zH) : zH := [
  .inr (.inr (5, [.ref (r.1 + 1), .ref (r.1 + 2), .ref (r.1 + c0), .ref (r.1 + 9), .ref (r.1 + 14), .ref (r.1 + 19), .ref (r.1 + 21), .int (I 0), .long (J 0), .long (J 1), .int (I 1), .ref (r.1 + 22)])),
  .inr (.inl (4, 6, zrf (r.1 + 23) 6)),
  .inr (.inl (4, 4, zrf (r.1 + 35) 4)),
  .inr (.inr (1, [.int 0, .int 0, .ref (r.1 + 4), .ref (r.1 + 5), .ref (r.1 + 6), .ref (r.1 + 7), .ref (r.1 + 8)])),
  .inl (7, fun _ => 0),
  .inl (6, fun _ => 0),
  .inl (6, fun _ => 0),
  .inl (6, fun _ => 0),
  .inl (6, fun _ => 0),
  .inr (.inr (0, [.ref (r.1 + c1), .ref (r.1 + 10), .ref (r.1 + 11), .ref (r.1 + 12), .ref (r.1 + 13)])),
  .inl (6, N.1),
  .inl (7, N.2.1),
  .inl (6, N.2.2.1),
  .inl (6, N.2.2.2),
  .inr (.inr (0, [.ref (r.1 + c2), .ref (r.1 + 15), .ref (r.1 + 16), .ref (r.1 + 17), .ref (r.1 + 18)])),
  .inl (6, A.1),
  .inl (7, A.2.1),
  .inl (6, A.2.2.1),
  .inl (6, A.2.2.2),
  .inr (.inr (2, [.ref (r.1 + 20), .int (I 2)])),
  .inl (1098, Q 9),
  .inr (.inl (2, 3, zrf (r.1 + 43) 3)),
  .inl (6, Q 0),
  .inr (.inr (4, [.ref (r.1 + 24), .int (I 6)])),
  .inl (60, Q 13),
  .inr (.inr (4, [.ref (r.1 + 26), .int (I 7)])),
  .inl (60, Q 14),
  .inr (.inr (4, [.ref (r.1 + 28), .int (I 8)])),
  .inl (60, Q 15),
  .inr (.inr (4, [.ref (r.1 + 30), .int (I 9)])),
  .inl (60, Q 16),
  .inr (.inr (4, [.ref (r.1 + 32), .int (I 10)])),
  .inl (60, Q 17),
  .inr (.inr (4, [.ref (r.1 + 34), .int (I 11)])),
  .inl (60, Q 18),
  .inr (.inr (4, [.ref (r.1 + 36), .int (I 12)])),
  .inl (60, Q 19),
  .inr (.inr (4, [.ref (r.1 + 38), .int (I 13)])),
  .inl (60, Q 20),
  .inr (.inr (4, [.ref (r.1 + 40), .int (I 14)])),
  .inl (60, Q 21),
  .inr (.inr (4, [.ref (r.1 + 42), .int (I 15)])),
  .inl (60, Q 22),
  .inr (.inr (2, [.ref (r.1 + 44), .int (I 3)])),
  .inl (1098, Q 10),
  .inr (.inr (2, [.ref (r.1 + 46), .int (I 4)])),
  .inl (1098, Q 11),
  .inr (.inr (2, [.ref (r.1 + 48), .int (I 5)])),
  .inl (1098, Q 12),
  .inl (27, Ga),
  .inl (18, Va)] ++ t
section ZMK
variable {r : zE} {c0 c1 c2 : Nat} {I : Nat → Int32} {J : Nat → Int64} {Q : Nat → Nat → Int32} {N A : zBr} {Ga Va : Nat → Int32} {t : zH}
theorem mc_0 : (zmk r c0 c1 c2 I J Q N A Ga Va t)[0]? = some (.inr (.inr (5, [.ref (r.1 + 1), .ref (r.1 + 2), .ref (r.1 + c0), .ref (r.1 + 9), .ref (r.1 + 14), .ref (r.1 + 19), .ref (r.1 + 21), .int (I 0), .long (J 0), .long (J 1), .int (I 1), .ref (r.1 + 22)]))) := rfl
theorem mo_0 : zob r (zmk r c0 c1 c2 I J Q N A Ga Va t) (r.1 + 0) 5 = true := zob_of mc_0
theorem mg_0_0 : zgR r (zmk r c0 c1 c2 I J Q N A Ga Va t) (r.1 + 0) 5 0 = some (r.1 + 1) := zgR_of mc_0 rfl
theorem mg_0_1 : zgR r (zmk r c0 c1 c2 I J Q N A Ga Va t) (r.1 + 0) 5 1 = some (r.1 + 2) := zgR_of mc_0 rfl
theorem mg_0_2 : zgR r (zmk r c0 c1 c2 I J Q N A Ga Va t) (r.1 + 0) 5 2 = some (r.1 + c0) := zgR_of mc_0 rfl
theorem mp_0_2 (v : Nat) : zpF r (zmk r c0 c1 c2 I J Q N A Ga Va t) (r.1 + 0) 5 2 (.ref (r.1 + v)) = some (zmk r v c1 c2 I J Q N A Ga Va t) := (zpF_of mc_0 (Nat.le_of_ble_eq_true rfl)).trans rfl
theorem mg_0_3 : zgR r (zmk r c0 c1 c2 I J Q N A Ga Va t) (r.1 + 0) 5 3 = some (r.1 + 9) := zgR_of mc_0 rfl
theorem mg_0_4 : zgR r (zmk r c0 c1 c2 I J Q N A Ga Va t) (r.1 + 0) 5 4 = some (r.1 + 14) := zgR_of mc_0 rfl
theorem mg_0_5 : zgR r (zmk r c0 c1 c2 I J Q N A Ga Va t) (r.1 + 0) 5 5 = some (r.1 + 19) := zgR_of mc_0 rfl
theorem mg_0_6 : zgR r (zmk r c0 c1 c2 I J Q N A Ga Va t) (r.1 + 0) 5 6 = some (r.1 + 21) := zgR_of mc_0 rfl
theorem mg_0_7 : zgI r (zmk r c0 c1 c2 I J Q N A Ga Va t) (r.1 + 0) 5 7 = some (I 0) := zgI_of mc_0 rfl
theorem mp_0_7 (v : Int32) : zpF r (zmk r c0 c1 c2 I J Q N A Ga Va t) (r.1 + 0) 5 7 (.int v) = some (zmk r c0 c1 c2 (va_up I 0 v) J Q N A Ga Va t) := (zpF_of mc_0 (Nat.le_of_ble_eq_true rfl)).trans rfl
theorem mg_0_8 : zgL r (zmk r c0 c1 c2 I J Q N A Ga Va t) (r.1 + 0) 5 8 = some (J 0) := zgL_of mc_0 rfl
theorem mp_0_8 (v : Int64) : zpF r (zmk r c0 c1 c2 I J Q N A Ga Va t) (r.1 + 0) 5 8 (.long v) = some (zmk r c0 c1 c2 I (va_up J 0 v) Q N A Ga Va t) := (zpF_of mc_0 (Nat.le_of_ble_eq_true rfl)).trans rfl
theorem mg_0_9 : zgL r (zmk r c0 c1 c2 I J Q N A Ga Va t) (r.1 + 0) 5 9 = some (J 1) := zgL_of mc_0 rfl
theorem mp_0_9 (v : Int64) : zpF r (zmk r c0 c1 c2 I J Q N A Ga Va t) (r.1 + 0) 5 9 (.long v) = some (zmk r c0 c1 c2 I (va_up J 1 v) Q N A Ga Va t) := (zpF_of mc_0 (Nat.le_of_ble_eq_true rfl)).trans rfl
theorem mg_0_10 : zgI r (zmk r c0 c1 c2 I J Q N A Ga Va t) (r.1 + 0) 5 10 = some (I 1) := zgI_of mc_0 rfl
theorem mp_0_10 (v : Int32) : zpF r (zmk r c0 c1 c2 I J Q N A Ga Va t) (r.1 + 0) 5 10 (.int v) = some (zmk r c0 c1 c2 (va_up I 1 v) J Q N A Ga Va t) := (zpF_of mc_0 (Nat.le_of_ble_eq_true rfl)).trans rfl
theorem mg_0_11 : zgR r (zmk r c0 c1 c2 I J Q N A Ga Va t) (r.1 + 0) 5 11 = some (r.1 + 22) := zgR_of mc_0 rfl
theorem mc_1 : (zmk r c0 c1 c2 I J Q N A Ga Va t)[1]? = some (.inr (.inl (4, 6, zrf (r.1 + 23) 6))) := rfl
theorem mq_1 {j : Nat} (hj : j < 6) : zaQ r (zmk r c0 c1 c2 I J Q N A Ga Va t) (r.1 + 1) (nI j) = some (some (r.1 + 23 + 2 * j)) := (zaQ_of mc_1 (by decide) hj (by omega)).trans (by unfold zrf; rw [if_pos hj])
theorem mn_1 : zaN r (zmk r c0 c1 c2 I J Q N A Ga Va t) (r.1 + 1) = some 6 := zaNq_of mc_1 (by decide)
theorem mc_2 : (zmk r c0 c1 c2 I J Q N A Ga Va t)[2]? = some (.inr (.inl (4, 4, zrf (r.1 + 35) 4))) := rfl
theorem mq_2 {j : Nat} (hj : j < 4) : zaQ r (zmk r c0 c1 c2 I J Q N A Ga Va t) (r.1 + 2) (nI j) = some (some (r.1 + 35 + 2 * j)) := (zaQ_of mc_2 (by decide) hj (by omega)).trans (by unfold zrf; rw [if_pos hj])
theorem mn_2 : zaN r (zmk r c0 c1 c2 I J Q N A Ga Va t) (r.1 + 2) = some 4 := zaNq_of mc_2 (by decide)
theorem mc_3 : (zmk r c0 c1 c2 I J Q N A Ga Va t)[3]? = some (.inr (.inr (1, [.int 0, .int 0, .ref (r.1 + 4), .ref (r.1 + 5), .ref (r.1 + 6), .ref (r.1 + 7), .ref (r.1 + 8)]))) := rfl
theorem mo_3 : zob r (zmk r c0 c1 c2 I J Q N A Ga Va t) (r.1 + 3) 1 = true := zob_of mc_3
theorem mg_3_0 : zgI r (zmk r c0 c1 c2 I J Q N A Ga Va t) (r.1 + 3) 1 0 = some (0) := zgI_of mc_3 rfl
theorem mg_3_1 : zgI r (zmk r c0 c1 c2 I J Q N A Ga Va t) (r.1 + 3) 1 1 = some (0) := zgI_of mc_3 rfl
theorem mg_3_2 : zgR r (zmk r c0 c1 c2 I J Q N A Ga Va t) (r.1 + 3) 1 2 = some (r.1 + 4) := zgR_of mc_3 rfl
theorem mg_3_3 : zgR r (zmk r c0 c1 c2 I J Q N A Ga Va t) (r.1 + 3) 1 3 = some (r.1 + 5) := zgR_of mc_3 rfl
theorem mg_3_4 : zgR r (zmk r c0 c1 c2 I J Q N A Ga Va t) (r.1 + 3) 1 4 = some (r.1 + 6) := zgR_of mc_3 rfl
theorem mg_3_5 : zgR r (zmk r c0 c1 c2 I J Q N A Ga Va t) (r.1 + 3) 1 5 = some (r.1 + 7) := zgR_of mc_3 rfl
theorem mg_3_6 : zgR r (zmk r c0 c1 c2 I J Q N A Ga Va t) (r.1 + 3) 1 6 = some (r.1 + 8) := zgR_of mc_3 rfl
theorem mc_4 : (zmk r c0 c1 c2 I J Q N A Ga Va t)[4]? = some (.inl (7, fun _ => 0)) := rfl
theorem mc_5 : (zmk r c0 c1 c2 I J Q N A Ga Va t)[5]? = some (.inl (6, fun _ => 0)) := rfl
theorem mc_6 : (zmk r c0 c1 c2 I J Q N A Ga Va t)[6]? = some (.inl (6, fun _ => 0)) := rfl
theorem mc_7 : (zmk r c0 c1 c2 I J Q N A Ga Va t)[7]? = some (.inl (6, fun _ => 0)) := rfl
theorem mc_8 : (zmk r c0 c1 c2 I J Q N A Ga Va t)[8]? = some (.inl (6, fun _ => 0)) := rfl
theorem mc_9 : (zmk r c0 c1 c2 I J Q N A Ga Va t)[9]? = some (.inr (.inr (0, [.ref (r.1 + c1), .ref (r.1 + 10), .ref (r.1 + 11), .ref (r.1 + 12), .ref (r.1 + 13)]))) := rfl
theorem mo_9 : zob r (zmk r c0 c1 c2 I J Q N A Ga Va t) (r.1 + 9) 0 = true := zob_of mc_9
theorem mg_9_0 : zgR r (zmk r c0 c1 c2 I J Q N A Ga Va t) (r.1 + 9) 0 0 = some (r.1 + c1) := zgR_of mc_9 rfl
theorem mp_9_0 (v : Nat) : zpF r (zmk r c0 c1 c2 I J Q N A Ga Va t) (r.1 + 9) 0 0 (.ref (r.1 + v)) = some (zmk r c0 v c2 I J Q N A Ga Va t) := (zpF_of mc_9 (Nat.le_of_ble_eq_true rfl)).trans rfl
theorem mg_9_1 : zgR r (zmk r c0 c1 c2 I J Q N A Ga Va t) (r.1 + 9) 0 1 = some (r.1 + 10) := zgR_of mc_9 rfl
theorem mg_9_2 : zgR r (zmk r c0 c1 c2 I J Q N A Ga Va t) (r.1 + 9) 0 2 = some (r.1 + 11) := zgR_of mc_9 rfl
theorem mg_9_3 : zgR r (zmk r c0 c1 c2 I J Q N A Ga Va t) (r.1 + 9) 0 3 = some (r.1 + 12) := zgR_of mc_9 rfl
theorem mg_9_4 : zgR r (zmk r c0 c1 c2 I J Q N A Ga Va t) (r.1 + 9) 0 4 = some (r.1 + 13) := zgR_of mc_9 rfl
theorem mc_10 : (zmk r c0 c1 c2 I J Q N A Ga Va t)[10]? = some (.inl (6, N.1)) := rfl
theorem ms_10 (f : Nat → Int32) : (zmk r c0 c1 c2 I J Q N A Ga Va t).set 10 (.inl (6, f)) = zmk r c0 c1 c2 I J Q (f, N.2.1, N.2.2.1, N.2.2.2) A Ga Va t := rfl
theorem ma_10 {j : Nat} (hj : j < 6) : zaI r (zmk r c0 c1 c2 I J Q N A Ga Va t) (r.1 + 10) (nI j) = some (N.1 j) := zaI_of mc_10 hj (by decide)
theorem mw_10 {j : Nat} {v : Int32} (hj : j < 6) : zsI r (zmk r c0 c1 c2 I J Q N A Ga Va t) (r.1 + 10) (nI j) v = some (zmk r c0 c1 c2 I J Q (upd (N.1) j v, N.2.1, N.2.2.1, N.2.2.2) A Ga Va t) := (zsI_of mc_10 hj (by decide)).trans rfl
theorem mn_10 : zaN r (zmk r c0 c1 c2 I J Q N A Ga Va t) (r.1 + 10) = some 6 := zaN_of mc_10
theorem mc_11 : (zmk r c0 c1 c2 I J Q N A Ga Va t)[11]? = some (.inl (7, N.2.1)) := rfl
theorem ms_11 (f : Nat → Int32) : (zmk r c0 c1 c2 I J Q N A Ga Va t).set 11 (.inl (7, f)) = zmk r c0 c1 c2 I J Q (N.1, f, N.2.2.1, N.2.2.2) A Ga Va t := rfl
theorem ma_11 {j : Nat} (hj : j < 7) : zaI r (zmk r c0 c1 c2 I J Q N A Ga Va t) (r.1 + 11) (nI j) = some (N.2.1 j) := zaI_of mc_11 hj (by decide)
theorem mw_11 {j : Nat} {v : Int32} (hj : j < 7) : zsI r (zmk r c0 c1 c2 I J Q N A Ga Va t) (r.1 + 11) (nI j) v = some (zmk r c0 c1 c2 I J Q (N.1, upd (N.2.1) j v, N.2.2.1, N.2.2.2) A Ga Va t) := (zsI_of mc_11 hj (by decide)).trans rfl
theorem mn_11 : zaN r (zmk r c0 c1 c2 I J Q N A Ga Va t) (r.1 + 11) = some 7 := zaN_of mc_11
theorem mc_12 : (zmk r c0 c1 c2 I J Q N A Ga Va t)[12]? = some (.inl (6, N.2.2.1)) := rfl
theorem ms_12 (f : Nat → Int32) : (zmk r c0 c1 c2 I J Q N A Ga Va t).set 12 (.inl (6, f)) = zmk r c0 c1 c2 I J Q (N.1, N.2.1, f, N.2.2.2) A Ga Va t := rfl
theorem ma_12 {j : Nat} (hj : j < 6) : zaI r (zmk r c0 c1 c2 I J Q N A Ga Va t) (r.1 + 12) (nI j) = some (N.2.2.1 j) := zaI_of mc_12 hj (by decide)
theorem mw_12 {j : Nat} {v : Int32} (hj : j < 6) : zsI r (zmk r c0 c1 c2 I J Q N A Ga Va t) (r.1 + 12) (nI j) v = some (zmk r c0 c1 c2 I J Q (N.1, N.2.1, upd (N.2.2.1) j v, N.2.2.2) A Ga Va t) := (zsI_of mc_12 hj (by decide)).trans rfl
theorem mn_12 : zaN r (zmk r c0 c1 c2 I J Q N A Ga Va t) (r.1 + 12) = some 6 := zaN_of mc_12
theorem mc_13 : (zmk r c0 c1 c2 I J Q N A Ga Va t)[13]? = some (.inl (6, N.2.2.2)) := rfl
theorem ms_13 (f : Nat → Int32) : (zmk r c0 c1 c2 I J Q N A Ga Va t).set 13 (.inl (6, f)) = zmk r c0 c1 c2 I J Q (N.1, N.2.1, N.2.2.1, f) A Ga Va t := rfl
theorem ma_13 {j : Nat} (hj : j < 6) : zaI r (zmk r c0 c1 c2 I J Q N A Ga Va t) (r.1 + 13) (nI j) = some (N.2.2.2 j) := zaI_of mc_13 hj (by decide)
theorem mw_13 {j : Nat} {v : Int32} (hj : j < 6) : zsI r (zmk r c0 c1 c2 I J Q N A Ga Va t) (r.1 + 13) (nI j) v = some (zmk r c0 c1 c2 I J Q (N.1, N.2.1, N.2.2.1, upd (N.2.2.2) j v) A Ga Va t) := (zsI_of mc_13 hj (by decide)).trans rfl
theorem mn_13 : zaN r (zmk r c0 c1 c2 I J Q N A Ga Va t) (r.1 + 13) = some 6 := zaN_of mc_13
theorem mc_14 : (zmk r c0 c1 c2 I J Q N A Ga Va t)[14]? = some (.inr (.inr (0, [.ref (r.1 + c2), .ref (r.1 + 15), .ref (r.1 + 16), .ref (r.1 + 17), .ref (r.1 + 18)]))) := rfl
theorem mo_14 : zob r (zmk r c0 c1 c2 I J Q N A Ga Va t) (r.1 + 14) 0 = true := zob_of mc_14
theorem mg_14_0 : zgR r (zmk r c0 c1 c2 I J Q N A Ga Va t) (r.1 + 14) 0 0 = some (r.1 + c2) := zgR_of mc_14 rfl
theorem mp_14_0 (v : Nat) : zpF r (zmk r c0 c1 c2 I J Q N A Ga Va t) (r.1 + 14) 0 0 (.ref (r.1 + v)) = some (zmk r c0 c1 v I J Q N A Ga Va t) := (zpF_of mc_14 (Nat.le_of_ble_eq_true rfl)).trans rfl
theorem mg_14_1 : zgR r (zmk r c0 c1 c2 I J Q N A Ga Va t) (r.1 + 14) 0 1 = some (r.1 + 15) := zgR_of mc_14 rfl
theorem mg_14_2 : zgR r (zmk r c0 c1 c2 I J Q N A Ga Va t) (r.1 + 14) 0 2 = some (r.1 + 16) := zgR_of mc_14 rfl
theorem mg_14_3 : zgR r (zmk r c0 c1 c2 I J Q N A Ga Va t) (r.1 + 14) 0 3 = some (r.1 + 17) := zgR_of mc_14 rfl
theorem mg_14_4 : zgR r (zmk r c0 c1 c2 I J Q N A Ga Va t) (r.1 + 14) 0 4 = some (r.1 + 18) := zgR_of mc_14 rfl
theorem mc_15 : (zmk r c0 c1 c2 I J Q N A Ga Va t)[15]? = some (.inl (6, A.1)) := rfl
theorem ms_15 (f : Nat → Int32) : (zmk r c0 c1 c2 I J Q N A Ga Va t).set 15 (.inl (6, f)) = zmk r c0 c1 c2 I J Q N (f, A.2.1, A.2.2.1, A.2.2.2) Ga Va t := rfl
theorem ma_15 {j : Nat} (hj : j < 6) : zaI r (zmk r c0 c1 c2 I J Q N A Ga Va t) (r.1 + 15) (nI j) = some (A.1 j) := zaI_of mc_15 hj (by decide)
theorem mw_15 {j : Nat} {v : Int32} (hj : j < 6) : zsI r (zmk r c0 c1 c2 I J Q N A Ga Va t) (r.1 + 15) (nI j) v = some (zmk r c0 c1 c2 I J Q N (upd (A.1) j v, A.2.1, A.2.2.1, A.2.2.2) Ga Va t) := (zsI_of mc_15 hj (by decide)).trans rfl
theorem mn_15 : zaN r (zmk r c0 c1 c2 I J Q N A Ga Va t) (r.1 + 15) = some 6 := zaN_of mc_15
theorem mc_16 : (zmk r c0 c1 c2 I J Q N A Ga Va t)[16]? = some (.inl (7, A.2.1)) := rfl
theorem ms_16 (f : Nat → Int32) : (zmk r c0 c1 c2 I J Q N A Ga Va t).set 16 (.inl (7, f)) = zmk r c0 c1 c2 I J Q N (A.1, f, A.2.2.1, A.2.2.2) Ga Va t := rfl
theorem ma_16 {j : Nat} (hj : j < 7) : zaI r (zmk r c0 c1 c2 I J Q N A Ga Va t) (r.1 + 16) (nI j) = some (A.2.1 j) := zaI_of mc_16 hj (by decide)
theorem mw_16 {j : Nat} {v : Int32} (hj : j < 7) : zsI r (zmk r c0 c1 c2 I J Q N A Ga Va t) (r.1 + 16) (nI j) v = some (zmk r c0 c1 c2 I J Q N (A.1, upd (A.2.1) j v, A.2.2.1, A.2.2.2) Ga Va t) := (zsI_of mc_16 hj (by decide)).trans rfl
theorem mn_16 : zaN r (zmk r c0 c1 c2 I J Q N A Ga Va t) (r.1 + 16) = some 7 := zaN_of mc_16
theorem mc_17 : (zmk r c0 c1 c2 I J Q N A Ga Va t)[17]? = some (.inl (6, A.2.2.1)) := rfl
theorem ms_17 (f : Nat → Int32) : (zmk r c0 c1 c2 I J Q N A Ga Va t).set 17 (.inl (6, f)) = zmk r c0 c1 c2 I J Q N (A.1, A.2.1, f, A.2.2.2) Ga Va t := rfl
theorem ma_17 {j : Nat} (hj : j < 6) : zaI r (zmk r c0 c1 c2 I J Q N A Ga Va t) (r.1 + 17) (nI j) = some (A.2.2.1 j) := zaI_of mc_17 hj (by decide)
theorem mw_17 {j : Nat} {v : Int32} (hj : j < 6) : zsI r (zmk r c0 c1 c2 I J Q N A Ga Va t) (r.1 + 17) (nI j) v = some (zmk r c0 c1 c2 I J Q N (A.1, A.2.1, upd (A.2.2.1) j v, A.2.2.2) Ga Va t) := (zsI_of mc_17 hj (by decide)).trans rfl
theorem mn_17 : zaN r (zmk r c0 c1 c2 I J Q N A Ga Va t) (r.1 + 17) = some 6 := zaN_of mc_17
theorem mc_18 : (zmk r c0 c1 c2 I J Q N A Ga Va t)[18]? = some (.inl (6, A.2.2.2)) := rfl
theorem ms_18 (f : Nat → Int32) : (zmk r c0 c1 c2 I J Q N A Ga Va t).set 18 (.inl (6, f)) = zmk r c0 c1 c2 I J Q N (A.1, A.2.1, A.2.2.1, f) Ga Va t := rfl
theorem ma_18 {j : Nat} (hj : j < 6) : zaI r (zmk r c0 c1 c2 I J Q N A Ga Va t) (r.1 + 18) (nI j) = some (A.2.2.2 j) := zaI_of mc_18 hj (by decide)
theorem mw_18 {j : Nat} {v : Int32} (hj : j < 6) : zsI r (zmk r c0 c1 c2 I J Q N A Ga Va t) (r.1 + 18) (nI j) v = some (zmk r c0 c1 c2 I J Q N (A.1, A.2.1, A.2.2.1, upd (A.2.2.2) j v) Ga Va t) := (zsI_of mc_18 hj (by decide)).trans rfl
theorem mn_18 : zaN r (zmk r c0 c1 c2 I J Q N A Ga Va t) (r.1 + 18) = some 6 := zaN_of mc_18
theorem mc_19 : (zmk r c0 c1 c2 I J Q N A Ga Va t)[19]? = some (.inr (.inr (2, [.ref (r.1 + 20), .int (I 2)]))) := rfl
theorem mo_19 : zob r (zmk r c0 c1 c2 I J Q N A Ga Va t) (r.1 + 19) 2 = true := zob_of mc_19
theorem mg_19_0 : zgR r (zmk r c0 c1 c2 I J Q N A Ga Va t) (r.1 + 19) 2 0 = some (r.1 + 20) := zgR_of mc_19 rfl
theorem mg_19_1 : zgI r (zmk r c0 c1 c2 I J Q N A Ga Va t) (r.1 + 19) 2 1 = some (I 2) := zgI_of mc_19 rfl
theorem mp_19_1 (v : Int32) : zpF r (zmk r c0 c1 c2 I J Q N A Ga Va t) (r.1 + 19) 2 1 (.int v) = some (zmk r c0 c1 c2 (va_up I 2 v) J Q N A Ga Va t) := (zpF_of mc_19 (Nat.le_of_ble_eq_true rfl)).trans rfl
theorem mc_20 : (zmk r c0 c1 c2 I J Q N A Ga Va t)[20]? = some (.inl (1098, Q 9)) := rfl
theorem ms_20 (f : Nat → Int32) : (zmk r c0 c1 c2 I J Q N A Ga Va t).set 20 (.inl (1098, f)) = zmk r c0 c1 c2 I J (va_up Q 9 f) N A Ga Va t := rfl
theorem ma_20 {j : Nat} (hj : j < 1098) : zaI r (zmk r c0 c1 c2 I J Q N A Ga Va t) (r.1 + 20) (nI j) = some (Q 9 j) := zaI_of mc_20 hj (by decide)
theorem mw_20 {j : Nat} {v : Int32} (hj : j < 1098) : zsI r (zmk r c0 c1 c2 I J Q N A Ga Va t) (r.1 + 20) (nI j) v = some (zmk r c0 c1 c2 I J (va_up Q 9 (upd (Q 9) j v)) N A Ga Va t) := (zsI_of mc_20 hj (by decide)).trans rfl
theorem mn_20 : zaN r (zmk r c0 c1 c2 I J Q N A Ga Va t) (r.1 + 20) = some 1098 := zaN_of mc_20
theorem mc_21 : (zmk r c0 c1 c2 I J Q N A Ga Va t)[21]? = some (.inr (.inl (2, 3, zrf (r.1 + 43) 3))) := rfl
theorem mq_21 {j : Nat} (hj : j < 3) : zaQ r (zmk r c0 c1 c2 I J Q N A Ga Va t) (r.1 + 21) (nI j) = some (some (r.1 + 43 + 2 * j)) := (zaQ_of mc_21 (by decide) hj (by omega)).trans (by unfold zrf; rw [if_pos hj])
theorem mn_21 : zaN r (zmk r c0 c1 c2 I J Q N A Ga Va t) (r.1 + 21) = some 3 := zaNq_of mc_21 (by decide)
theorem mc_22 : (zmk r c0 c1 c2 I J Q N A Ga Va t)[22]? = some (.inl (6, Q 0)) := rfl
theorem ms_22 (f : Nat → Int32) : (zmk r c0 c1 c2 I J Q N A Ga Va t).set 22 (.inl (6, f)) = zmk r c0 c1 c2 I J (va_up Q 0 f) N A Ga Va t := rfl
theorem ma_22 {j : Nat} (hj : j < 6) : zaI r (zmk r c0 c1 c2 I J Q N A Ga Va t) (r.1 + 22) (nI j) = some (Q 0 j) := zaI_of mc_22 hj (by decide)
theorem mw_22 {j : Nat} {v : Int32} (hj : j < 6) : zsI r (zmk r c0 c1 c2 I J Q N A Ga Va t) (r.1 + 22) (nI j) v = some (zmk r c0 c1 c2 I J (va_up Q 0 (upd (Q 0) j v)) N A Ga Va t) := (zsI_of mc_22 hj (by decide)).trans rfl
theorem mn_22 : zaN r (zmk r c0 c1 c2 I J Q N A Ga Va t) (r.1 + 22) = some 6 := zaN_of mc_22
theorem mc_23 : (zmk r c0 c1 c2 I J Q N A Ga Va t)[23]? = some (.inr (.inr (4, [.ref (r.1 + 24), .int (I 6)]))) := rfl
theorem mo_23 : zob r (zmk r c0 c1 c2 I J Q N A Ga Va t) (r.1 + 23) 4 = true := zob_of mc_23
theorem mg_23_0 : zgR r (zmk r c0 c1 c2 I J Q N A Ga Va t) (r.1 + 23) 4 0 = some (r.1 + 24) := zgR_of mc_23 rfl
theorem mg_23_1 : zgI r (zmk r c0 c1 c2 I J Q N A Ga Va t) (r.1 + 23) 4 1 = some (I 6) := zgI_of mc_23 rfl
theorem mp_23_1 (v : Int32) : zpF r (zmk r c0 c1 c2 I J Q N A Ga Va t) (r.1 + 23) 4 1 (.int v) = some (zmk r c0 c1 c2 (va_up I 6 v) J Q N A Ga Va t) := (zpF_of mc_23 (Nat.le_of_ble_eq_true rfl)).trans rfl
theorem mc_24 : (zmk r c0 c1 c2 I J Q N A Ga Va t)[24]? = some (.inl (60, Q 13)) := rfl
theorem ms_24 (f : Nat → Int32) : (zmk r c0 c1 c2 I J Q N A Ga Va t).set 24 (.inl (60, f)) = zmk r c0 c1 c2 I J (va_up Q 13 f) N A Ga Va t := rfl
theorem ma_24 {j : Nat} (hj : j < 60) : zaI r (zmk r c0 c1 c2 I J Q N A Ga Va t) (r.1 + 24) (nI j) = some (Q 13 j) := zaI_of mc_24 hj (by decide)
theorem mw_24 {j : Nat} {v : Int32} (hj : j < 60) : zsI r (zmk r c0 c1 c2 I J Q N A Ga Va t) (r.1 + 24) (nI j) v = some (zmk r c0 c1 c2 I J (va_up Q 13 (upd (Q 13) j v)) N A Ga Va t) := (zsI_of mc_24 hj (by decide)).trans rfl
theorem mn_24 : zaN r (zmk r c0 c1 c2 I J Q N A Ga Va t) (r.1 + 24) = some 60 := zaN_of mc_24
theorem mc_25 : (zmk r c0 c1 c2 I J Q N A Ga Va t)[25]? = some (.inr (.inr (4, [.ref (r.1 + 26), .int (I 7)]))) := rfl
theorem mo_25 : zob r (zmk r c0 c1 c2 I J Q N A Ga Va t) (r.1 + 25) 4 = true := zob_of mc_25
theorem mg_25_0 : zgR r (zmk r c0 c1 c2 I J Q N A Ga Va t) (r.1 + 25) 4 0 = some (r.1 + 26) := zgR_of mc_25 rfl
theorem mg_25_1 : zgI r (zmk r c0 c1 c2 I J Q N A Ga Va t) (r.1 + 25) 4 1 = some (I 7) := zgI_of mc_25 rfl
theorem mp_25_1 (v : Int32) : zpF r (zmk r c0 c1 c2 I J Q N A Ga Va t) (r.1 + 25) 4 1 (.int v) = some (zmk r c0 c1 c2 (va_up I 7 v) J Q N A Ga Va t) := (zpF_of mc_25 (Nat.le_of_ble_eq_true rfl)).trans rfl
theorem mc_26 : (zmk r c0 c1 c2 I J Q N A Ga Va t)[26]? = some (.inl (60, Q 14)) := rfl
theorem ms_26 (f : Nat → Int32) : (zmk r c0 c1 c2 I J Q N A Ga Va t).set 26 (.inl (60, f)) = zmk r c0 c1 c2 I J (va_up Q 14 f) N A Ga Va t := rfl
theorem ma_26 {j : Nat} (hj : j < 60) : zaI r (zmk r c0 c1 c2 I J Q N A Ga Va t) (r.1 + 26) (nI j) = some (Q 14 j) := zaI_of mc_26 hj (by decide)
theorem mw_26 {j : Nat} {v : Int32} (hj : j < 60) : zsI r (zmk r c0 c1 c2 I J Q N A Ga Va t) (r.1 + 26) (nI j) v = some (zmk r c0 c1 c2 I J (va_up Q 14 (upd (Q 14) j v)) N A Ga Va t) := (zsI_of mc_26 hj (by decide)).trans rfl
theorem mn_26 : zaN r (zmk r c0 c1 c2 I J Q N A Ga Va t) (r.1 + 26) = some 60 := zaN_of mc_26
theorem mc_27 : (zmk r c0 c1 c2 I J Q N A Ga Va t)[27]? = some (.inr (.inr (4, [.ref (r.1 + 28), .int (I 8)]))) := rfl
theorem mo_27 : zob r (zmk r c0 c1 c2 I J Q N A Ga Va t) (r.1 + 27) 4 = true := zob_of mc_27
theorem mg_27_0 : zgR r (zmk r c0 c1 c2 I J Q N A Ga Va t) (r.1 + 27) 4 0 = some (r.1 + 28) := zgR_of mc_27 rfl
theorem mg_27_1 : zgI r (zmk r c0 c1 c2 I J Q N A Ga Va t) (r.1 + 27) 4 1 = some (I 8) := zgI_of mc_27 rfl
theorem mp_27_1 (v : Int32) : zpF r (zmk r c0 c1 c2 I J Q N A Ga Va t) (r.1 + 27) 4 1 (.int v) = some (zmk r c0 c1 c2 (va_up I 8 v) J Q N A Ga Va t) := (zpF_of mc_27 (Nat.le_of_ble_eq_true rfl)).trans rfl
theorem mc_28 : (zmk r c0 c1 c2 I J Q N A Ga Va t)[28]? = some (.inl (60, Q 15)) := rfl
theorem ms_28 (f : Nat → Int32) : (zmk r c0 c1 c2 I J Q N A Ga Va t).set 28 (.inl (60, f)) = zmk r c0 c1 c2 I J (va_up Q 15 f) N A Ga Va t := rfl
theorem ma_28 {j : Nat} (hj : j < 60) : zaI r (zmk r c0 c1 c2 I J Q N A Ga Va t) (r.1 + 28) (nI j) = some (Q 15 j) := zaI_of mc_28 hj (by decide)
theorem mw_28 {j : Nat} {v : Int32} (hj : j < 60) : zsI r (zmk r c0 c1 c2 I J Q N A Ga Va t) (r.1 + 28) (nI j) v = some (zmk r c0 c1 c2 I J (va_up Q 15 (upd (Q 15) j v)) N A Ga Va t) := (zsI_of mc_28 hj (by decide)).trans rfl
theorem mn_28 : zaN r (zmk r c0 c1 c2 I J Q N A Ga Va t) (r.1 + 28) = some 60 := zaN_of mc_28
theorem mc_29 : (zmk r c0 c1 c2 I J Q N A Ga Va t)[29]? = some (.inr (.inr (4, [.ref (r.1 + 30), .int (I 9)]))) := rfl
theorem mo_29 : zob r (zmk r c0 c1 c2 I J Q N A Ga Va t) (r.1 + 29) 4 = true := zob_of mc_29
theorem mg_29_0 : zgR r (zmk r c0 c1 c2 I J Q N A Ga Va t) (r.1 + 29) 4 0 = some (r.1 + 30) := zgR_of mc_29 rfl
theorem mg_29_1 : zgI r (zmk r c0 c1 c2 I J Q N A Ga Va t) (r.1 + 29) 4 1 = some (I 9) := zgI_of mc_29 rfl
theorem mp_29_1 (v : Int32) : zpF r (zmk r c0 c1 c2 I J Q N A Ga Va t) (r.1 + 29) 4 1 (.int v) = some (zmk r c0 c1 c2 (va_up I 9 v) J Q N A Ga Va t) := (zpF_of mc_29 (Nat.le_of_ble_eq_true rfl)).trans rfl
theorem mc_30 : (zmk r c0 c1 c2 I J Q N A Ga Va t)[30]? = some (.inl (60, Q 16)) := rfl
theorem ms_30 (f : Nat → Int32) : (zmk r c0 c1 c2 I J Q N A Ga Va t).set 30 (.inl (60, f)) = zmk r c0 c1 c2 I J (va_up Q 16 f) N A Ga Va t := rfl
theorem ma_30 {j : Nat} (hj : j < 60) : zaI r (zmk r c0 c1 c2 I J Q N A Ga Va t) (r.1 + 30) (nI j) = some (Q 16 j) := zaI_of mc_30 hj (by decide)
theorem mw_30 {j : Nat} {v : Int32} (hj : j < 60) : zsI r (zmk r c0 c1 c2 I J Q N A Ga Va t) (r.1 + 30) (nI j) v = some (zmk r c0 c1 c2 I J (va_up Q 16 (upd (Q 16) j v)) N A Ga Va t) := (zsI_of mc_30 hj (by decide)).trans rfl
theorem mn_30 : zaN r (zmk r c0 c1 c2 I J Q N A Ga Va t) (r.1 + 30) = some 60 := zaN_of mc_30
theorem mc_31 : (zmk r c0 c1 c2 I J Q N A Ga Va t)[31]? = some (.inr (.inr (4, [.ref (r.1 + 32), .int (I 10)]))) := rfl
theorem mo_31 : zob r (zmk r c0 c1 c2 I J Q N A Ga Va t) (r.1 + 31) 4 = true := zob_of mc_31
theorem mg_31_0 : zgR r (zmk r c0 c1 c2 I J Q N A Ga Va t) (r.1 + 31) 4 0 = some (r.1 + 32) := zgR_of mc_31 rfl
theorem mg_31_1 : zgI r (zmk r c0 c1 c2 I J Q N A Ga Va t) (r.1 + 31) 4 1 = some (I 10) := zgI_of mc_31 rfl
theorem mp_31_1 (v : Int32) : zpF r (zmk r c0 c1 c2 I J Q N A Ga Va t) (r.1 + 31) 4 1 (.int v) = some (zmk r c0 c1 c2 (va_up I 10 v) J Q N A Ga Va t) := (zpF_of mc_31 (Nat.le_of_ble_eq_true rfl)).trans rfl
theorem mc_32 : (zmk r c0 c1 c2 I J Q N A Ga Va t)[32]? = some (.inl (60, Q 17)) := rfl
theorem ms_32 (f : Nat → Int32) : (zmk r c0 c1 c2 I J Q N A Ga Va t).set 32 (.inl (60, f)) = zmk r c0 c1 c2 I J (va_up Q 17 f) N A Ga Va t := rfl
theorem ma_32 {j : Nat} (hj : j < 60) : zaI r (zmk r c0 c1 c2 I J Q N A Ga Va t) (r.1 + 32) (nI j) = some (Q 17 j) := zaI_of mc_32 hj (by decide)
theorem mw_32 {j : Nat} {v : Int32} (hj : j < 60) : zsI r (zmk r c0 c1 c2 I J Q N A Ga Va t) (r.1 + 32) (nI j) v = some (zmk r c0 c1 c2 I J (va_up Q 17 (upd (Q 17) j v)) N A Ga Va t) := (zsI_of mc_32 hj (by decide)).trans rfl
theorem mn_32 : zaN r (zmk r c0 c1 c2 I J Q N A Ga Va t) (r.1 + 32) = some 60 := zaN_of mc_32
theorem mc_33 : (zmk r c0 c1 c2 I J Q N A Ga Va t)[33]? = some (.inr (.inr (4, [.ref (r.1 + 34), .int (I 11)]))) := rfl
theorem mo_33 : zob r (zmk r c0 c1 c2 I J Q N A Ga Va t) (r.1 + 33) 4 = true := zob_of mc_33
theorem mg_33_0 : zgR r (zmk r c0 c1 c2 I J Q N A Ga Va t) (r.1 + 33) 4 0 = some (r.1 + 34) := zgR_of mc_33 rfl
theorem mg_33_1 : zgI r (zmk r c0 c1 c2 I J Q N A Ga Va t) (r.1 + 33) 4 1 = some (I 11) := zgI_of mc_33 rfl
theorem mp_33_1 (v : Int32) : zpF r (zmk r c0 c1 c2 I J Q N A Ga Va t) (r.1 + 33) 4 1 (.int v) = some (zmk r c0 c1 c2 (va_up I 11 v) J Q N A Ga Va t) := (zpF_of mc_33 (Nat.le_of_ble_eq_true rfl)).trans rfl
theorem mc_34 : (zmk r c0 c1 c2 I J Q N A Ga Va t)[34]? = some (.inl (60, Q 18)) := rfl
theorem ms_34 (f : Nat → Int32) : (zmk r c0 c1 c2 I J Q N A Ga Va t).set 34 (.inl (60, f)) = zmk r c0 c1 c2 I J (va_up Q 18 f) N A Ga Va t := rfl
theorem ma_34 {j : Nat} (hj : j < 60) : zaI r (zmk r c0 c1 c2 I J Q N A Ga Va t) (r.1 + 34) (nI j) = some (Q 18 j) := zaI_of mc_34 hj (by decide)
theorem mw_34 {j : Nat} {v : Int32} (hj : j < 60) : zsI r (zmk r c0 c1 c2 I J Q N A Ga Va t) (r.1 + 34) (nI j) v = some (zmk r c0 c1 c2 I J (va_up Q 18 (upd (Q 18) j v)) N A Ga Va t) := (zsI_of mc_34 hj (by decide)).trans rfl
theorem mn_34 : zaN r (zmk r c0 c1 c2 I J Q N A Ga Va t) (r.1 + 34) = some 60 := zaN_of mc_34
theorem mc_35 : (zmk r c0 c1 c2 I J Q N A Ga Va t)[35]? = some (.inr (.inr (4, [.ref (r.1 + 36), .int (I 12)]))) := rfl
theorem mo_35 : zob r (zmk r c0 c1 c2 I J Q N A Ga Va t) (r.1 + 35) 4 = true := zob_of mc_35
theorem mg_35_0 : zgR r (zmk r c0 c1 c2 I J Q N A Ga Va t) (r.1 + 35) 4 0 = some (r.1 + 36) := zgR_of mc_35 rfl
theorem mg_35_1 : zgI r (zmk r c0 c1 c2 I J Q N A Ga Va t) (r.1 + 35) 4 1 = some (I 12) := zgI_of mc_35 rfl
theorem mp_35_1 (v : Int32) : zpF r (zmk r c0 c1 c2 I J Q N A Ga Va t) (r.1 + 35) 4 1 (.int v) = some (zmk r c0 c1 c2 (va_up I 12 v) J Q N A Ga Va t) := (zpF_of mc_35 (Nat.le_of_ble_eq_true rfl)).trans rfl
theorem mc_36 : (zmk r c0 c1 c2 I J Q N A Ga Va t)[36]? = some (.inl (60, Q 19)) := rfl
theorem ms_36 (f : Nat → Int32) : (zmk r c0 c1 c2 I J Q N A Ga Va t).set 36 (.inl (60, f)) = zmk r c0 c1 c2 I J (va_up Q 19 f) N A Ga Va t := rfl
theorem ma_36 {j : Nat} (hj : j < 60) : zaI r (zmk r c0 c1 c2 I J Q N A Ga Va t) (r.1 + 36) (nI j) = some (Q 19 j) := zaI_of mc_36 hj (by decide)
theorem mw_36 {j : Nat} {v : Int32} (hj : j < 60) : zsI r (zmk r c0 c1 c2 I J Q N A Ga Va t) (r.1 + 36) (nI j) v = some (zmk r c0 c1 c2 I J (va_up Q 19 (upd (Q 19) j v)) N A Ga Va t) := (zsI_of mc_36 hj (by decide)).trans rfl
theorem mn_36 : zaN r (zmk r c0 c1 c2 I J Q N A Ga Va t) (r.1 + 36) = some 60 := zaN_of mc_36
theorem mc_37 : (zmk r c0 c1 c2 I J Q N A Ga Va t)[37]? = some (.inr (.inr (4, [.ref (r.1 + 38), .int (I 13)]))) := rfl
theorem mo_37 : zob r (zmk r c0 c1 c2 I J Q N A Ga Va t) (r.1 + 37) 4 = true := zob_of mc_37
theorem mg_37_0 : zgR r (zmk r c0 c1 c2 I J Q N A Ga Va t) (r.1 + 37) 4 0 = some (r.1 + 38) := zgR_of mc_37 rfl
theorem mg_37_1 : zgI r (zmk r c0 c1 c2 I J Q N A Ga Va t) (r.1 + 37) 4 1 = some (I 13) := zgI_of mc_37 rfl
theorem mp_37_1 (v : Int32) : zpF r (zmk r c0 c1 c2 I J Q N A Ga Va t) (r.1 + 37) 4 1 (.int v) = some (zmk r c0 c1 c2 (va_up I 13 v) J Q N A Ga Va t) := (zpF_of mc_37 (Nat.le_of_ble_eq_true rfl)).trans rfl
theorem mc_38 : (zmk r c0 c1 c2 I J Q N A Ga Va t)[38]? = some (.inl (60, Q 20)) := rfl
theorem ms_38 (f : Nat → Int32) : (zmk r c0 c1 c2 I J Q N A Ga Va t).set 38 (.inl (60, f)) = zmk r c0 c1 c2 I J (va_up Q 20 f) N A Ga Va t := rfl
theorem ma_38 {j : Nat} (hj : j < 60) : zaI r (zmk r c0 c1 c2 I J Q N A Ga Va t) (r.1 + 38) (nI j) = some (Q 20 j) := zaI_of mc_38 hj (by decide)
theorem mw_38 {j : Nat} {v : Int32} (hj : j < 60) : zsI r (zmk r c0 c1 c2 I J Q N A Ga Va t) (r.1 + 38) (nI j) v = some (zmk r c0 c1 c2 I J (va_up Q 20 (upd (Q 20) j v)) N A Ga Va t) := (zsI_of mc_38 hj (by decide)).trans rfl
theorem mn_38 : zaN r (zmk r c0 c1 c2 I J Q N A Ga Va t) (r.1 + 38) = some 60 := zaN_of mc_38
theorem mc_39 : (zmk r c0 c1 c2 I J Q N A Ga Va t)[39]? = some (.inr (.inr (4, [.ref (r.1 + 40), .int (I 14)]))) := rfl
theorem mo_39 : zob r (zmk r c0 c1 c2 I J Q N A Ga Va t) (r.1 + 39) 4 = true := zob_of mc_39
theorem mg_39_0 : zgR r (zmk r c0 c1 c2 I J Q N A Ga Va t) (r.1 + 39) 4 0 = some (r.1 + 40) := zgR_of mc_39 rfl
theorem mg_39_1 : zgI r (zmk r c0 c1 c2 I J Q N A Ga Va t) (r.1 + 39) 4 1 = some (I 14) := zgI_of mc_39 rfl
theorem mp_39_1 (v : Int32) : zpF r (zmk r c0 c1 c2 I J Q N A Ga Va t) (r.1 + 39) 4 1 (.int v) = some (zmk r c0 c1 c2 (va_up I 14 v) J Q N A Ga Va t) := (zpF_of mc_39 (Nat.le_of_ble_eq_true rfl)).trans rfl
theorem mc_40 : (zmk r c0 c1 c2 I J Q N A Ga Va t)[40]? = some (.inl (60, Q 21)) := rfl
theorem ms_40 (f : Nat → Int32) : (zmk r c0 c1 c2 I J Q N A Ga Va t).set 40 (.inl (60, f)) = zmk r c0 c1 c2 I J (va_up Q 21 f) N A Ga Va t := rfl
theorem ma_40 {j : Nat} (hj : j < 60) : zaI r (zmk r c0 c1 c2 I J Q N A Ga Va t) (r.1 + 40) (nI j) = some (Q 21 j) := zaI_of mc_40 hj (by decide)
theorem mw_40 {j : Nat} {v : Int32} (hj : j < 60) : zsI r (zmk r c0 c1 c2 I J Q N A Ga Va t) (r.1 + 40) (nI j) v = some (zmk r c0 c1 c2 I J (va_up Q 21 (upd (Q 21) j v)) N A Ga Va t) := (zsI_of mc_40 hj (by decide)).trans rfl
theorem mn_40 : zaN r (zmk r c0 c1 c2 I J Q N A Ga Va t) (r.1 + 40) = some 60 := zaN_of mc_40
theorem mc_41 : (zmk r c0 c1 c2 I J Q N A Ga Va t)[41]? = some (.inr (.inr (4, [.ref (r.1 + 42), .int (I 15)]))) := rfl
theorem mo_41 : zob r (zmk r c0 c1 c2 I J Q N A Ga Va t) (r.1 + 41) 4 = true := zob_of mc_41
theorem mg_41_0 : zgR r (zmk r c0 c1 c2 I J Q N A Ga Va t) (r.1 + 41) 4 0 = some (r.1 + 42) := zgR_of mc_41 rfl
theorem mg_41_1 : zgI r (zmk r c0 c1 c2 I J Q N A Ga Va t) (r.1 + 41) 4 1 = some (I 15) := zgI_of mc_41 rfl
theorem mp_41_1 (v : Int32) : zpF r (zmk r c0 c1 c2 I J Q N A Ga Va t) (r.1 + 41) 4 1 (.int v) = some (zmk r c0 c1 c2 (va_up I 15 v) J Q N A Ga Va t) := (zpF_of mc_41 (Nat.le_of_ble_eq_true rfl)).trans rfl
theorem mc_42 : (zmk r c0 c1 c2 I J Q N A Ga Va t)[42]? = some (.inl (60, Q 22)) := rfl
theorem ms_42 (f : Nat → Int32) : (zmk r c0 c1 c2 I J Q N A Ga Va t).set 42 (.inl (60, f)) = zmk r c0 c1 c2 I J (va_up Q 22 f) N A Ga Va t := rfl
theorem ma_42 {j : Nat} (hj : j < 60) : zaI r (zmk r c0 c1 c2 I J Q N A Ga Va t) (r.1 + 42) (nI j) = some (Q 22 j) := zaI_of mc_42 hj (by decide)
theorem mw_42 {j : Nat} {v : Int32} (hj : j < 60) : zsI r (zmk r c0 c1 c2 I J Q N A Ga Va t) (r.1 + 42) (nI j) v = some (zmk r c0 c1 c2 I J (va_up Q 22 (upd (Q 22) j v)) N A Ga Va t) := (zsI_of mc_42 hj (by decide)).trans rfl
theorem mn_42 : zaN r (zmk r c0 c1 c2 I J Q N A Ga Va t) (r.1 + 42) = some 60 := zaN_of mc_42
theorem mc_43 : (zmk r c0 c1 c2 I J Q N A Ga Va t)[43]? = some (.inr (.inr (2, [.ref (r.1 + 44), .int (I 3)]))) := rfl
theorem mo_43 : zob r (zmk r c0 c1 c2 I J Q N A Ga Va t) (r.1 + 43) 2 = true := zob_of mc_43
theorem mg_43_0 : zgR r (zmk r c0 c1 c2 I J Q N A Ga Va t) (r.1 + 43) 2 0 = some (r.1 + 44) := zgR_of mc_43 rfl
theorem mg_43_1 : zgI r (zmk r c0 c1 c2 I J Q N A Ga Va t) (r.1 + 43) 2 1 = some (I 3) := zgI_of mc_43 rfl
theorem mp_43_1 (v : Int32) : zpF r (zmk r c0 c1 c2 I J Q N A Ga Va t) (r.1 + 43) 2 1 (.int v) = some (zmk r c0 c1 c2 (va_up I 3 v) J Q N A Ga Va t) := (zpF_of mc_43 (Nat.le_of_ble_eq_true rfl)).trans rfl
theorem mc_44 : (zmk r c0 c1 c2 I J Q N A Ga Va t)[44]? = some (.inl (1098, Q 10)) := rfl
theorem ms_44 (f : Nat → Int32) : (zmk r c0 c1 c2 I J Q N A Ga Va t).set 44 (.inl (1098, f)) = zmk r c0 c1 c2 I J (va_up Q 10 f) N A Ga Va t := rfl
theorem ma_44 {j : Nat} (hj : j < 1098) : zaI r (zmk r c0 c1 c2 I J Q N A Ga Va t) (r.1 + 44) (nI j) = some (Q 10 j) := zaI_of mc_44 hj (by decide)
theorem mw_44 {j : Nat} {v : Int32} (hj : j < 1098) : zsI r (zmk r c0 c1 c2 I J Q N A Ga Va t) (r.1 + 44) (nI j) v = some (zmk r c0 c1 c2 I J (va_up Q 10 (upd (Q 10) j v)) N A Ga Va t) := (zsI_of mc_44 hj (by decide)).trans rfl
theorem mn_44 : zaN r (zmk r c0 c1 c2 I J Q N A Ga Va t) (r.1 + 44) = some 1098 := zaN_of mc_44
theorem mc_45 : (zmk r c0 c1 c2 I J Q N A Ga Va t)[45]? = some (.inr (.inr (2, [.ref (r.1 + 46), .int (I 4)]))) := rfl
theorem mo_45 : zob r (zmk r c0 c1 c2 I J Q N A Ga Va t) (r.1 + 45) 2 = true := zob_of mc_45
theorem mg_45_0 : zgR r (zmk r c0 c1 c2 I J Q N A Ga Va t) (r.1 + 45) 2 0 = some (r.1 + 46) := zgR_of mc_45 rfl
theorem mg_45_1 : zgI r (zmk r c0 c1 c2 I J Q N A Ga Va t) (r.1 + 45) 2 1 = some (I 4) := zgI_of mc_45 rfl
theorem mp_45_1 (v : Int32) : zpF r (zmk r c0 c1 c2 I J Q N A Ga Va t) (r.1 + 45) 2 1 (.int v) = some (zmk r c0 c1 c2 (va_up I 4 v) J Q N A Ga Va t) := (zpF_of mc_45 (Nat.le_of_ble_eq_true rfl)).trans rfl
theorem mc_46 : (zmk r c0 c1 c2 I J Q N A Ga Va t)[46]? = some (.inl (1098, Q 11)) := rfl
theorem ms_46 (f : Nat → Int32) : (zmk r c0 c1 c2 I J Q N A Ga Va t).set 46 (.inl (1098, f)) = zmk r c0 c1 c2 I J (va_up Q 11 f) N A Ga Va t := rfl
theorem ma_46 {j : Nat} (hj : j < 1098) : zaI r (zmk r c0 c1 c2 I J Q N A Ga Va t) (r.1 + 46) (nI j) = some (Q 11 j) := zaI_of mc_46 hj (by decide)
theorem mw_46 {j : Nat} {v : Int32} (hj : j < 1098) : zsI r (zmk r c0 c1 c2 I J Q N A Ga Va t) (r.1 + 46) (nI j) v = some (zmk r c0 c1 c2 I J (va_up Q 11 (upd (Q 11) j v)) N A Ga Va t) := (zsI_of mc_46 hj (by decide)).trans rfl
theorem mn_46 : zaN r (zmk r c0 c1 c2 I J Q N A Ga Va t) (r.1 + 46) = some 1098 := zaN_of mc_46
theorem mc_47 : (zmk r c0 c1 c2 I J Q N A Ga Va t)[47]? = some (.inr (.inr (2, [.ref (r.1 + 48), .int (I 5)]))) := rfl
theorem mo_47 : zob r (zmk r c0 c1 c2 I J Q N A Ga Va t) (r.1 + 47) 2 = true := zob_of mc_47
theorem mg_47_0 : zgR r (zmk r c0 c1 c2 I J Q N A Ga Va t) (r.1 + 47) 2 0 = some (r.1 + 48) := zgR_of mc_47 rfl
theorem mg_47_1 : zgI r (zmk r c0 c1 c2 I J Q N A Ga Va t) (r.1 + 47) 2 1 = some (I 5) := zgI_of mc_47 rfl
theorem mp_47_1 (v : Int32) : zpF r (zmk r c0 c1 c2 I J Q N A Ga Va t) (r.1 + 47) 2 1 (.int v) = some (zmk r c0 c1 c2 (va_up I 5 v) J Q N A Ga Va t) := (zpF_of mc_47 (Nat.le_of_ble_eq_true rfl)).trans rfl
theorem mc_48 : (zmk r c0 c1 c2 I J Q N A Ga Va t)[48]? = some (.inl (1098, Q 12)) := rfl
theorem ms_48 (f : Nat → Int32) : (zmk r c0 c1 c2 I J Q N A Ga Va t).set 48 (.inl (1098, f)) = zmk r c0 c1 c2 I J (va_up Q 12 f) N A Ga Va t := rfl
theorem ma_48 {j : Nat} (hj : j < 1098) : zaI r (zmk r c0 c1 c2 I J Q N A Ga Va t) (r.1 + 48) (nI j) = some (Q 12 j) := zaI_of mc_48 hj (by decide)
theorem mw_48 {j : Nat} {v : Int32} (hj : j < 1098) : zsI r (zmk r c0 c1 c2 I J Q N A Ga Va t) (r.1 + 48) (nI j) v = some (zmk r c0 c1 c2 I J (va_up Q 12 (upd (Q 12) j v)) N A Ga Va t) := (zsI_of mc_48 hj (by decide)).trans rfl
theorem mn_48 : zaN r (zmk r c0 c1 c2 I J Q N A Ga Va t) (r.1 + 48) = some 1098 := zaN_of mc_48
theorem mc_49 : (zmk r c0 c1 c2 I J Q N A Ga Va t)[49]? = some (.inl (27, Ga)) := rfl
theorem ms_49 (f : Nat → Int32) : (zmk r c0 c1 c2 I J Q N A Ga Va t).set 49 (.inl (27, f)) = zmk r c0 c1 c2 I J Q N A (f) Va t := rfl
theorem ma_49 {j : Nat} (hj : j < 27) : zaI r (zmk r c0 c1 c2 I J Q N A Ga Va t) (r.1 + 49) (nI j) = some (Ga j) := zaI_of mc_49 hj (by decide)
theorem mw_49 {j : Nat} {v : Int32} (hj : j < 27) : zsI r (zmk r c0 c1 c2 I J Q N A Ga Va t) (r.1 + 49) (nI j) v = some (zmk r c0 c1 c2 I J Q N A (upd (Ga) j v) Va t) := (zsI_of mc_49 hj (by decide)).trans rfl
theorem mn_49 : zaN r (zmk r c0 c1 c2 I J Q N A Ga Va t) (r.1 + 49) = some 27 := zaN_of mc_49
theorem mc_50 : (zmk r c0 c1 c2 I J Q N A Ga Va t)[50]? = some (.inl (18, Va)) := rfl
theorem ms_50 (f : Nat → Int32) : (zmk r c0 c1 c2 I J Q N A Ga Va t).set 50 (.inl (18, f)) = zmk r c0 c1 c2 I J Q N A Ga (f) t := rfl
theorem ma_50 {j : Nat} (hj : j < 18) : zaI r (zmk r c0 c1 c2 I J Q N A Ga Va t) (r.1 + 50) (nI j) = some (Va j) := zaI_of mc_50 hj (by decide)
theorem mw_50 {j : Nat} {v : Int32} (hj : j < 18) : zsI r (zmk r c0 c1 c2 I J Q N A Ga Va t) (r.1 + 50) (nI j) v = some (zmk r c0 c1 c2 I J Q N A Ga (upd (Va) j v) t) := (zsI_of mc_50 hj (by decide)).trans rfl
theorem mn_50 : zaN r (zmk r c0 c1 c2 I J Q N A Ga Va t) (r.1 + 50) = some 18 := zaN_of mc_50
theorem mo_r {j : Nat} (hj : j < 6) : zob r (zmk r c0 c1 c2 I J Q N A Ga Va t) (r.1 + 23 + 2 * j) 4 = true := by
  match j, hj with
  | 0, _ => exact mo_23
  | 1, _ => exact mo_25
  | 2, _ => exact mo_27
  | 3, _ => exact mo_29
  | 4, _ => exact mo_31
  | 5, _ => exact mo_33
  | k + 6, h => exact absurd h (by omega)
theorem mgv_r {j : Nat} (hj : j < 6) : zgR r (zmk r c0 c1 c2 I J Q N A Ga Va t) (r.1 + 23 + 2 * j) 4 0 = some (r.1 + (24 + 2 * j)) := by
  match j, hj with
  | 0, _ => exact mg_23_0
  | 1, _ => exact mg_25_0
  | 2, _ => exact mg_27_0
  | 3, _ => exact mg_29_0
  | 4, _ => exact mg_31_0
  | 5, _ => exact mg_33_0
  | k + 6, h => exact absurd h (by omega)
theorem mgs_r {j : Nat} (hj : j < 6) : zgI r (zmk r c0 c1 c2 I J Q N A Ga Va t) (r.1 + 23 + 2 * j) 4 1 = some (I (6 + j)) := by
  match j, hj with
  | 0, _ => exact mg_23_1
  | 1, _ => exact mg_25_1
  | 2, _ => exact mg_27_1
  | 3, _ => exact mg_29_1
  | 4, _ => exact mg_31_1
  | 5, _ => exact mg_33_1
  | k + 6, h => exact absurd h (by omega)
theorem mps_r {j : Nat} {v : Int32} (hj : j < 6) : zpF r (zmk r c0 c1 c2 I J Q N A Ga Va t) (r.1 + 23 + 2 * j) 4 1 (.int v) = some (zmk r c0 c1 c2 (va_up I (6 + j) v) J Q N A Ga Va t) := by
  match j, hj with
  | 0, _ => exact mp_23_1 v
  | 1, _ => exact mp_25_1 v
  | 2, _ => exact mp_27_1 v
  | 3, _ => exact mp_29_1 v
  | 4, _ => exact mp_31_1 v
  | 5, _ => exact mp_33_1 v
  | k + 6, h => exact absurd h (by omega)
theorem mcv_r {j : Nat} (hj : j < 6) : (zmk r c0 c1 c2 I J Q N A Ga Va t)[24 + 2 * j]? = some (.inl (60, Q (13 + j))) := by
  match j, hj with
  | 0, _ => exact rfl
  | 1, _ => exact rfl
  | 2, _ => exact rfl
  | 3, _ => exact rfl
  | 4, _ => exact rfl
  | 5, _ => exact rfl
  | k + 6, h => exact absurd h (by omega)
theorem msv_r {j : Nat} (hj : j < 6) (f : Nat → Int32) : (zmk r c0 c1 c2 I J Q N A Ga Va t).set (24 + 2 * j) (.inl (60, f)) = zmk r c0 c1 c2 I J (va_up Q (13 + j) f) N A Ga Va t := by
  match j, hj with
  | 0, _ => exact rfl
  | 1, _ => exact rfl
  | 2, _ => exact rfl
  | 3, _ => exact rfl
  | 4, _ => exact rfl
  | 5, _ => exact rfl
  | k + 6, h => exact absurd h (by omega)
theorem mav_r {j i : Nat} (hj : j < 6) (hi : i < 60) : zaI r (zmk r c0 c1 c2 I J Q N A Ga Va t) (r.1 + (24 + 2 * j)) (nI i) = some (Q (13 + j) i) := zaI_of (mcv_r hj) hi (by omega)
theorem mwv_r {j i : Nat} {v : Int32} (hj : j < 6) (hi : i < 60) : zsI r (zmk r c0 c1 c2 I J Q N A Ga Va t) (r.1 + (24 + 2 * j)) (nI i) v = some (zmk r c0 c1 c2 I J (va_up Q (13 + j) (upd (Q (13 + j)) i v)) N A Ga Va t) := (zsI_of (mcv_r hj) hi (by omega)).trans (congrArg some (msv_r hj _))
theorem mnv_r {j : Nat} (hj : j < 6) : zaN r (zmk r c0 c1 c2 I J Q N A Ga Va t) (r.1 + (24 + 2 * j)) = some 60 := zaN_of (mcv_r hj)
theorem mo_t {j : Nat} (hj : j < 4) : zob r (zmk r c0 c1 c2 I J Q N A Ga Va t) (r.1 + 35 + 2 * j) 4 = true := by
  match j, hj with
  | 0, _ => exact mo_35
  | 1, _ => exact mo_37
  | 2, _ => exact mo_39
  | 3, _ => exact mo_41
  | k + 4, h => exact absurd h (by omega)
theorem mgv_t {j : Nat} (hj : j < 4) : zgR r (zmk r c0 c1 c2 I J Q N A Ga Va t) (r.1 + 35 + 2 * j) 4 0 = some (r.1 + (36 + 2 * j)) := by
  match j, hj with
  | 0, _ => exact mg_35_0
  | 1, _ => exact mg_37_0
  | 2, _ => exact mg_39_0
  | 3, _ => exact mg_41_0
  | k + 4, h => exact absurd h (by omega)
theorem mgs_t {j : Nat} (hj : j < 4) : zgI r (zmk r c0 c1 c2 I J Q N A Ga Va t) (r.1 + 35 + 2 * j) 4 1 = some (I (12 + j)) := by
  match j, hj with
  | 0, _ => exact mg_35_1
  | 1, _ => exact mg_37_1
  | 2, _ => exact mg_39_1
  | 3, _ => exact mg_41_1
  | k + 4, h => exact absurd h (by omega)
theorem mps_t {j : Nat} {v : Int32} (hj : j < 4) : zpF r (zmk r c0 c1 c2 I J Q N A Ga Va t) (r.1 + 35 + 2 * j) 4 1 (.int v) = some (zmk r c0 c1 c2 (va_up I (12 + j) v) J Q N A Ga Va t) := by
  match j, hj with
  | 0, _ => exact mp_35_1 v
  | 1, _ => exact mp_37_1 v
  | 2, _ => exact mp_39_1 v
  | 3, _ => exact mp_41_1 v
  | k + 4, h => exact absurd h (by omega)
theorem mcv_t {j : Nat} (hj : j < 4) : (zmk r c0 c1 c2 I J Q N A Ga Va t)[36 + 2 * j]? = some (.inl (60, Q (19 + j))) := by
  match j, hj with
  | 0, _ => exact rfl
  | 1, _ => exact rfl
  | 2, _ => exact rfl
  | 3, _ => exact rfl
  | k + 4, h => exact absurd h (by omega)
theorem msv_t {j : Nat} (hj : j < 4) (f : Nat → Int32) : (zmk r c0 c1 c2 I J Q N A Ga Va t).set (36 + 2 * j) (.inl (60, f)) = zmk r c0 c1 c2 I J (va_up Q (19 + j) f) N A Ga Va t := by
  match j, hj with
  | 0, _ => exact rfl
  | 1, _ => exact rfl
  | 2, _ => exact rfl
  | 3, _ => exact rfl
  | k + 4, h => exact absurd h (by omega)
theorem mav_t {j i : Nat} (hj : j < 4) (hi : i < 60) : zaI r (zmk r c0 c1 c2 I J Q N A Ga Va t) (r.1 + (36 + 2 * j)) (nI i) = some (Q (19 + j) i) := zaI_of (mcv_t hj) hi (by omega)
theorem mwv_t {j i : Nat} {v : Int32} (hj : j < 4) (hi : i < 60) : zsI r (zmk r c0 c1 c2 I J Q N A Ga Va t) (r.1 + (36 + 2 * j)) (nI i) v = some (zmk r c0 c1 c2 I J (va_up Q (19 + j) (upd (Q (19 + j)) i v)) N A Ga Va t) := (zsI_of (mcv_t hj) hi (by omega)).trans (congrArg some (msv_t hj _))
theorem mnv_t {j : Nat} (hj : j < 4) : zaN r (zmk r c0 c1 c2 I J Q N A Ga Va t) (r.1 + (36 + 2 * j)) = some 60 := zaN_of (mcv_t hj)
theorem mo_k {j : Nat} (hj : j < 3) : zob r (zmk r c0 c1 c2 I J Q N A Ga Va t) (r.1 + 43 + 2 * j) 2 = true := by
  match j, hj with
  | 0, _ => exact mo_43
  | 1, _ => exact mo_45
  | 2, _ => exact mo_47
  | k + 3, h => exact absurd h (by omega)
theorem mgv_k {j : Nat} (hj : j < 3) : zgR r (zmk r c0 c1 c2 I J Q N A Ga Va t) (r.1 + 43 + 2 * j) 2 0 = some (r.1 + (44 + 2 * j)) := by
  match j, hj with
  | 0, _ => exact mg_43_0
  | 1, _ => exact mg_45_0
  | 2, _ => exact mg_47_0
  | k + 3, h => exact absurd h (by omega)
theorem mgs_k {j : Nat} (hj : j < 3) : zgI r (zmk r c0 c1 c2 I J Q N A Ga Va t) (r.1 + 43 + 2 * j) 2 1 = some (I (3 + j)) := by
  match j, hj with
  | 0, _ => exact mg_43_1
  | 1, _ => exact mg_45_1
  | 2, _ => exact mg_47_1
  | k + 3, h => exact absurd h (by omega)
theorem mps_k {j : Nat} {v : Int32} (hj : j < 3) : zpF r (zmk r c0 c1 c2 I J Q N A Ga Va t) (r.1 + 43 + 2 * j) 2 1 (.int v) = some (zmk r c0 c1 c2 (va_up I (3 + j) v) J Q N A Ga Va t) := by
  match j, hj with
  | 0, _ => exact mp_43_1 v
  | 1, _ => exact mp_45_1 v
  | 2, _ => exact mp_47_1 v
  | k + 3, h => exact absurd h (by omega)
theorem mcv_k {j : Nat} (hj : j < 3) : (zmk r c0 c1 c2 I J Q N A Ga Va t)[44 + 2 * j]? = some (.inl (1098, Q (10 + j))) := by
  match j, hj with
  | 0, _ => exact rfl
  | 1, _ => exact rfl
  | 2, _ => exact rfl
  | k + 3, h => exact absurd h (by omega)
theorem msv_k {j : Nat} (hj : j < 3) (f : Nat → Int32) : (zmk r c0 c1 c2 I J Q N A Ga Va t).set (44 + 2 * j) (.inl (1098, f)) = zmk r c0 c1 c2 I J (va_up Q (10 + j) f) N A Ga Va t := by
  match j, hj with
  | 0, _ => exact rfl
  | 1, _ => exact rfl
  | 2, _ => exact rfl
  | k + 3, h => exact absurd h (by omega)
theorem mav_k {j i : Nat} (hj : j < 3) (hi : i < 1098) : zaI r (zmk r c0 c1 c2 I J Q N A Ga Va t) (r.1 + (44 + 2 * j)) (nI i) = some (Q (10 + j) i) := zaI_of (mcv_k hj) hi (by omega)
theorem mwv_k {j i : Nat} {v : Int32} (hj : j < 3) (hi : i < 1098) : zsI r (zmk r c0 c1 c2 I J Q N A Ga Va t) (r.1 + (44 + 2 * j)) (nI i) v = some (zmk r c0 c1 c2 I J (va_up Q (10 + j) (upd (Q (10 + j)) i v)) N A Ga Va t) := (zsI_of (mcv_k hj) hi (by omega)).trans (congrArg some (msv_k hj _))
theorem mnv_k {j : Nat} (hj : j < 3) : zaN r (zmk r c0 c1 c2 I J Q N A Ga Va t) (r.1 + (44 + 2 * j)) = some 1098 := zaN_of (mcv_k hj)
end ZMK
