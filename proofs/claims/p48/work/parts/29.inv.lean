/-! THE STATE BETWEEN TWO CALLS; what agrees tells the same -/
def zbw (lo hi i : Int32) : Int32 := if i < lo then 0 else if hi < i then 0 else 1
theorem zbw_hk {n : Nat} (hn : n < 2 ^ 31) (i : Int32) : zbw 0 (nI n - 1) i = zhk n i := by
  unfold zbw zhk
  by_cases c : i < 0
  · rw [if_pos c, if_pos c]
  · rw [if_neg c, if_neg c]
    obtain ⟨j, hj, rfl⟩ := nI_of c
    cases n with
    | zero => rw [if_pos (show nI 0 - 1 < nI j from Int32.lt_of_lt_of_le (by decide) (nI_pos' hj)), if_neg (nI_nlt (Nat.zero_le _) hj)]
    | succ n =>
      rw [nI_pred]
      by_cases c2 : n < j
      · rw [if_pos (nI_lt c2 hj), if_neg (nI_nlt (by omega) hj)]
      · rw [if_neg (nI_nlt (by omega) (by omega)), if_pos (nI_lt (by omega) hn)]
theorem zhk_01 (n : Nat) (i : Int32) : zhk n i = 0 ∨ zhk n i = 1 := by
  unfold zhk
  repeat' split
  all_goals first | exact .inl rfl | exact .inr rfl
def zVd (C : zCs) (H : zA) : Prop := ∀ m, m < C.2.1 → H m = -9 ∨ ∃ j, j < C.1 ∧ H m = nI j
def sMates (C : zCs) (H : zA) : Int32 := zfd (fun a m => zfd (fun a q => a + (if C.2.2.2.2.2 m = C.2.2.2.2.2 q then if sBes C H q m 0 = 0 then 0 else 1 else 0)) 0 m a) 0 C.2.1 0
theorem nI_of0 (n : Nat) : Int32.ofNat n = nI n := id rfl
theorem va_same {α : Type} {f : Nat → α} {k : Nat} {v : α} : va_up f k v k = v := by simp [va_up]
theorem va_ne {α : Type} {f : Nat → α} {k j : Nat} {v : α} (h : j ≠ k) : va_up f k v j = f j := by simp [va_up, h]
theorem va_self {α : Type} (f : Nat → α) (k : Nat) : va_up f k (f k) = f := by
  funext j
  by_cases h : j = k
  · subst h; exact va_same
  · exact va_ne h
theorem nI_m1 {m : Nat} (h : m < 2 ^ 31) : ¬ nI m = -1 := fun e => nI_pos h (by rw [e]; decide)
section SAME
variable {C : zCs} {H H' L L' : zA}
theorem sIn_c {m : Nat} (e : H' m = H m) (w : Int32) : sIn C H' m w = sIn C H m w := by unfold sIn; rw [e]
theorem sBes_c {k m : Nat} (e1 : H' k = H k) (e : H' m = H m) (w : Int32) : sBes C H' k m w = sBes C H k m w := by unfold sBes; rw [sIn_c e1, e1, e]
theorem sWk_c {k m : Nat} (e1 : L' k = L k) (e : L' m = L m) : sWk C L' k m = sWk C L k m := by unfold sWk; rw [e1, e]
theorem sSu_c {m : Nat} (hm : m < C.2.1) (e : ∀ k, k < C.2.1 → H' k = H k) (el : ∀ k, k < C.2.1 → L' k = L k) (w b : Int32) : sSu C H' L' m w b = sSu C H L m w b := by
  unfold sSu
  rw [e m hm]
  exact zfd_congr fun s k _ hk => by rw [sBes_c (e k (by omega)) (e m hm), sWk_c (el k (by omega)) (el m hm)]
theorem sWo_c {m : Nat} (hm : m < C.2.1) (e : ∀ k, k < C.2.1 → H' k = H k) (el : ∀ k, k < C.2.1 → L' k = L k) (w b : Int32) : sWo C H' L' m w b = sWo C H L m w b := by
  unfold sWo
  rw [sIn_c (e m hm), sSu_c hm e el]
theorem sAll_c (e : ∀ k, k < C.2.1 → H' k = H k) (el : ∀ k, k < C.2.1 → L' k = L k) (w : Int32) : sAll C H' L' w = sAll C H L w := zfd_congr fun s k _ hk => by rw [sWo_c (by omega) e el]
theorem sMost_c (e : ∀ k, k < C.2.1 → H' k = H k) (el : ∀ k, k < C.2.1 → L' k = L k) (w : Int32) : sMost C H' L' w = sMost C H L w := zfd_congr fun s k _ hk => by rw [sWo_c (by omega) e el]
theorem sMany_c (e : ∀ k, k < C.2.1 → H' k = H k) (w : Int32) : sMany C H' w = sMany C H w := zfd_congr fun s k _ hk => by rw [sIn_c (e k (by omega))]
theorem sBe_c {m : Nat} (hm : m < C.2.1) (e : ∀ k, k < C.2.1 → H' k = H k) (w : Int32) : sBe C H' m w = sBe C H m w := zfd_congr fun s k _ hk => by rw [sBes_c (e k (by omega)) (e m hm)]
theorem sMates_c (e : ∀ k, k < C.2.1 → H' k = H k) : sMates C H' = sMates C H := zfd_congr fun s m _ hm => zfd_congr fun s k _ hk => by rw [sBes_c (e k (by omega)) (e m (by omega))]
theorem sTired_c {T T' : zA} (e : ∀ k, k < C.2.1 → T' k = T k) : sTired C T' = sTired C T := zfd_congr fun s k _ hk => by rw [e k (by omega)]
end SAME
section VALID
variable {C : zCs}
theorem cg_vd {H G : zA} (g : zCG C H G) : zVd C H := fun m hm => (g.1 m hm).imp id fun ⟨j, a, b, _⟩ => ⟨j, a, b⟩
theorem vd_c {H H' : zA} (e : ∀ m, m < C.2.1 → H' m = H m) (v : zVd C H) : zVd C H' := fun m hm => by rw [e m hm]; exact v m hm
/-- hooks that are hooks, no two alike -/
def zVI (C : zCs) (H : zA) : Prop := zVd C H ∧ ∀ m k, m < C.2.1 → k < C.2.1 → H m = H k → ¬ H m = -9 → m = k
theorem cg_vi {H G : zA} (k : zCk C) (g : zCG C H G) : zVI C H := ⟨cg_vd g, fun m q hm hq e hn => by
  rcases g.1 m hm with z | ⟨j, a1, a2, a3⟩
  · exact absurd z hn
  · exact zCG_inj g k hm hq a1 a2 (e.symm.trans a2)⟩
theorem vi_c {H H' : zA} (e : ∀ m, m < C.2.1 → H' m = H m) (v : zVI C H) : zVI C H' := ⟨vd_c e v.1, fun m q hm hq => by rw [e m hm, e q hq]; exact v.2 m q hm hq⟩
theorem lk_c {L L' : zA} (e : ∀ m, m < C.2.1 → L' m = L m) (v : zLk C L) : zLk C L' := fun m hm => by rw [e m hm]; exact v m hm
end VALID
/-- lines 1 to 9; tired 0 to 99 -/
def zL1 (C : zCs) (L : zA) : Prop := ∀ m, m < C.2.1 → ∃ a, 1 ≤ a ∧ a < 10 ∧ L m = nI a
def zT9 (C : zCs) (T : zA) : Prop := ∀ m, m < C.2.1 → ∃ a, a < 100 ∧ T m = nI a
theorem l1_lk {C : zCs} {L : zA} (h : zL1 C L) : zLk C L := fun m hm => by
  obtain ⟨a, _, h2, h3⟩ := h m hm
  exact ⟨a, h2, h3⟩
theorem l1_c {C : zCs} {L L' : zA} (e : ∀ m, m < C.2.1 → L' m = L m) (v : zL1 C L) : zL1 C L' := fun m hm => by rw [e m hm]; exact v m hm
theorem t9_c {C : zCs} {L L' : zA} (e : ∀ m, m < C.2.1 → L' m = L m) (v : zT9 C L) : zT9 C L' := fun m hm => by rw [e m hm]; exact v m hm
/-- hooks, lines, tired -/
abbrev zDk : Type := zA × zA × zA
/-- a crew in the rest of the heap (or the first one) -/
def zCt (r : zE) (t : zH) (c : Nat) (C : zCs) : Prop := ∀ c0 c1 c2 I J Q N A Ga Va, zCv r (r.1 + c) C (zmk r c0 c1 c2 I J Q N A Ga Va t)
def zNo (C : zCs) (N : zBr) : Prop := zCG C N.1 N.2.1 ∧ zLk C N.2.2.1 ∧ True
def zDe (C : zCs) (N : zBr) (D : zDk) : Prop := ∀ m, m < C.2.1 → N.1 m = D.1 m ∧ N.2.2.1 m = D.2.1 m ∧ N.2.2.2 m = D.2.2 m
def zOk (C : zCs) (D : zDk) : Prop := zVI C D.1 ∧ zL1 C D.2.1 ∧ zT9 C D.2.2
/-- a log: moments 0 to d -/
def zPa (C : zCs) (d : Nat) (P : zA) (M : Nat → zDk) : Prop := d ≤ 60 ∧ ∀ j, j ≤ d → zOk C (M j) ∧ ∀ m, m < C.2.1 → P (18 * j + m) = (M j).1 m ∧ P (18 * j + (6 + m)) = (M j).2.1 m ∧ P (18 * j + (12 + m)) = (M j).2.2 m
def zKe (C : zCs) (s : Int32) (P : zA) (o : Option (Nat × (Nat → zDk))) : Prop := match o with
  | none => s = -1
  | some q => s = nI q.1 ∧ zPa C q.1 P q.2
/-- a row or a text -/
def zRw (s : Int32) (f : zA) (o : Option (List Int32)) (mx : Nat) : Prop := match o with
  | none => s = -1
  | some l => l.length ≤ mx ∧ s = nI l.length ∧ ∀ i, i < l.length → f i = l.getD i 0
def zIw (r : zE) (C : zCs) (d : Nat) (M : Nat → zDk) (K : Nat → Option (Nat × (Nat → zDk))) (W Tx : Nat → Option (List Int32)) (ta : Int32) (tu tl : Int64) (c : Nat) (I : zA) (J : Nat → Int64) (Q : Nat → zA) (N : zBr) (t : zH) : Prop :=
  zCk C ∧ zCt r t c C ∧ zNo C N ∧ zDe C N (M d) ∧ I 2 = nI d ∧ zPa C d (Q 9) M ∧ (∀ k, k < 3 → zKe C (I (3 + k)) (Q (10 + k)) (K k)) ∧ (∀ j, j < 6 → zRw (I (6 + j)) (Q (13 + j)) (W j) 40) ∧ (∀ j, j < 4 → zRw (I (12 + j)) (Q (19 + j)) (Tx j) 60) ∧ I 0 = ta ∧ J 0 = tu ∧ J 1 = tl
/-- the state between two calls: n decks have been laid -/
def zSt (r : zE) (C : zCs) (d : Nat) (M : Nat → zDk) (K : Nat → Option (Nat × (Nat → zDk))) (W Tx : Nat → Option (List Int32)) (ta : Int32) (tu tl : Int64) (Ga Va : zA) (n : Nat) (h : zH) : Prop := ∃ c c2 I J Q N A t, h = zmk r c c c2 I J Q N A Ga Va t ∧ zIw r C d M K W Tx ta tu tl c I J Q N t ∧ t.length ≤ 7 * n ∧ zhs t ≤ 60 * n
section FRAME
variable {r : zE} {C : zCs} {d : Nat} {M : Nat → zDk} {K : Nat → Option (Nat × (Nat → zDk))} {W Tx : Nat → Option (List Int32)} {ta : Int32} {tu tl : Int64} {Ga Va : zA} {n : Nat} {c c2 : Nat} {I : zA} {J : Nat → Int64} {Q : Nat → zA} {N A : zBr} {t : zH}
theorem st_mk (iv : zIw r C d M K W Tx ta tu tl c I J Q N t) (t1 : t.length ≤ 7 * n) (t2 : zhs t ≤ 60 * n) : zSt r C d M K W Tx ta tu tl Ga Va n (zmk r c c c2 I J Q N A Ga Va t) := ⟨c, c2, I, J, Q, N, A, t, rfl, iv, t1, t2⟩
theorem iv_told (v : Int32) (i : zIw r C d M K W Tx ta tu tl c I J Q N t) : zIw r C d M K W Tx (v) tu tl c (va_up I 0 v) J Q N t := by
  obtain ⟨h1, h2, h3, h4, h5, h6, h7, h8, h9, h10, h11, h12⟩ := i
  refine ⟨h1, h2, h3, h4, ?_, h6, fun k hk => ?_, fun j hj => ?_, fun j hj => ?_, va_same, h11, h12⟩
  · rw [va_ne (by decide)]; exact h5
  · rw [va_ne (by omega)]; exact h7 k hk
  · rw [va_ne (by omega)]; exact h8 j hj
  · rw [va_ne (by omega)]; exact h9 j hj
theorem iv_ratio (x y : Int64) (i : zIw r C d M K W Tx ta tu tl c I J Q N t) : zIw r C d M K W Tx ta (x) (y) c I (va_up (va_up J 0 x) 1 y) Q N t := by
  obtain ⟨h1, h2, h3, h4, h5, h6, h7, h8, h9, h10, h11, h12⟩ := i
  exact ⟨h1, h2, h3, h4, h5, h6, h7, h8, h9, h10, by rw [va_ne (by decide), va_same], va_same⟩
theorem iv_found (v : Int32) (f : zA) (i : zIw r C d M K W Tx ta tu tl c I J Q N t) : zIw r C d M K W Tx ta tu tl c (va_up I 1 v) J (va_up Q 0 f) N t := by
  obtain ⟨h1, h2, h3, h4, h5, h6, h7, h8, h9, h10, h11, h12⟩ := i
  refine ⟨h1, h2, h3, h4, ?_, ?_, fun k hk => ?_, fun j hj => ?_, fun j hj => ?_, ?_, h11, h12⟩
  · rw [va_ne (by decide)]; exact h5
  · rw [va_ne (by decide)]; exact h6
  · rw [va_ne (by omega), va_ne (by omega)]; exact h7 k hk
  · rw [va_ne (by omega), va_ne (by omega)]; exact h8 j hj
  · rw [va_ne (by omega), va_ne (by omega)]; exact h9 j hj
  · rw [va_ne (by decide)]; exact h10
theorem iv_row {j : Nat} {s : Int32} {f : zA} {o : Option (List Int32)} (i : zIw r C d M K W Tx ta tu tl c I J Q N t) (hj : j < 6) (e : zRw s f o 40) : zIw r C d M K (va_up W j o) Tx ta tu tl c (va_up I (6 + j) s) J (va_up Q (13 + j) f) N t := by
  obtain ⟨h1, h2, h3, h4, h5, h6, h7, h8, h9, h10, h11, h12⟩ := i
  refine ⟨h1, h2, h3, h4, ?_, ?_, fun k hk => ?_, fun q hq => ?_, fun q hq => ?_, ?_, h11, h12⟩
  · rw [va_ne (by omega)]; exact h5
  · rw [va_ne (by omega)]; exact h6
  · rw [va_ne (by omega), va_ne (by omega)]; exact h7 k hk
  · by_cases z : q = j
    · subst z; rw [va_same, va_same, va_same]; exact e
    · rw [va_ne (by omega), va_ne (by omega), va_ne z]; exact h8 q hq
  · rw [va_ne (by omega), va_ne (by omega)]; exact h9 q hq
  · rw [va_ne (by omega)]; exact h10
theorem iv_text {j : Nat} {s : Int32} {f : zA} {o : Option (List Int32)} (i : zIw r C d M K W Tx ta tu tl c I J Q N t) (hj : j < 4) (e : zRw s f o 60) : zIw r C d M K W (va_up Tx j o) ta tu tl c (va_up I (12 + j) s) J (va_up Q (19 + j) f) N t := by
  obtain ⟨h1, h2, h3, h4, h5, h6, h7, h8, h9, h10, h11, h12⟩ := i
  refine ⟨h1, h2, h3, h4, ?_, ?_, fun k hk => ?_, fun q hq => ?_, fun q hq => ?_, ?_, h11, h12⟩
  · rw [va_ne (by omega)]; exact h5
  · rw [va_ne (by omega)]; exact h6
  · rw [va_ne (by omega), va_ne (by omega)]; exact h7 k hk
  · rw [va_ne (by omega), va_ne (by omega)]; exact h8 q hq
  · by_cases z : q = j
    · subst z; rw [va_same, va_same, va_same]; exact e
    · rw [va_ne (by omega), va_ne (by omega), va_ne z]; exact h9 q hq
  · rw [va_ne (by omega)]; exact h10
/-- another log, another now -/
theorem iv_log (i : zIw r C d M K W Tx ta tu tl c I J Q N t) (d' : Nat) (M' : Nat → zDk) (P : zA) (N' : zBr) (hp : zPa C d' P M') (g : zCG C N'.1 N'.2.1) (e : zDe C N' (M' d')) : zIw r C (d') (M') K W Tx ta tu tl c (va_up I 2 (nI d')) J (va_up Q 9 P) (N') t := by
  obtain ⟨h1, h2, h3, h4, h5, h6, h7, h8, h9, h10, h11, h12⟩ := i
  refine ⟨h1, h2, ⟨g, l1_lk (l1_c (fun m hm => (e m hm).2.1) (hp.2 d' (Nat.le_refl _)).1.2.1), trivial⟩, e, va_same, ?_, fun k hk => ?_, fun q hq => ?_, fun q hq => ?_, ?_, h11, h12⟩
  · rw [va_same]; exact hp
  · rw [va_ne (by omega), va_ne (by omega)]; exact h7 k hk
  · rw [va_ne (by omega), va_ne (by omega)]; exact h8 q hq
  · rw [va_ne (by omega), va_ne (by omega)]; exact h9 q hq
  · rw [va_ne (by omega)]; exact h10
theorem iv_kept {j : Nat} {s : Int32} {f : zA} {o : Option (Nat × (Nat → zDk))} (i : zIw r C d M K W Tx ta tu tl c I J Q N t) (hj : j < 3) (e : zKe C s f o) : zIw r C d M (va_up K j o) W Tx ta tu tl c (va_up I (3 + j) s) J (va_up Q (10 + j) f) N t := by
  obtain ⟨h1, h2, h3, h4, h5, h6, h7, h8, h9, h10, h11, h12⟩ := i
  refine ⟨h1, h2, h3, h4, ?_, ?_, fun q hq => ?_, fun q hq => ?_, fun q hq => ?_, ?_, h11, h12⟩
  · rw [va_ne (by omega)]; exact h5
  · rw [va_ne (by omega)]; exact h6
  · by_cases z : q = j
    · subst z; rw [va_same, va_same, va_same]; exact e
    · rw [va_ne (by omega), va_ne (by omega), va_ne z]; exact h7 q hq
  · rw [va_ne (by omega), va_ne (by omega)]; exact h8 q hq
  · rw [va_ne (by omega), va_ne (by omega)]; exact h9 q hq
  · rw [va_ne (by omega)]; exact h10
/-- what is read of the state: only moments 0 to d count -/
theorem pa_c {d' : Nat} {P : zA} {M' : Nat → zDk} (h : zPa C d P M) (hd : d' ≤ d) (e : ∀ j, j ≤ d' → M' j = M j) : zPa C d' P M' := ⟨by have := h.1; omega, fun j hj => by rw [e j hj]; exact h.2 j (by omega)⟩
end FRAME
section CONST
variable {r : zE} {c0 c1 c2 : Nat} {I : Nat → Int32} {J : Nat → Int64} {Q : Nat → Nat → Int32} {N A : zBr} {Ga Va : Nat → Int32} {t : zH} {C : zCs} {c : Nat}
theorem k_when (r : zE) (h : zH) (i : Int32) : zev r i_X5_isWhen 0 [some (.int i)] [] h = some (some (.int (zhk 3 i)), h) := by
  rw [E_X5_isWhen_0]
  rw [← zbw_hk (by decide) i]
  unfold zbw
  rw [show nI 3 - 1 = (2 : Int32) by decide]
  repeat' split
  all_goals rfl
theorem k_kept (i : Int32) : zev r i_X5_isKeptPlace 0 [some (.ref (r.1 + 0)), some (.int i)] [] (zmk r c0 c1 c2 I J Q N A Ga Va t) = some (some (.int (zhk 3 i)), zmk r c0 c1 c2 I J Q N A Ga Va t) := by
  simp only [E_X5_isKeptPlace_0, mo_0, mg_0_0, mg_0_1, mg_0_2, mg_0_3, mg_0_4, mg_0_5, mg_0_6, mg_0_7, mg_0_8, mg_0_9, mg_0_10, mg_0_11, Option.bind_some, mn_21, nI_of0, zhk]
  by_cases h : i < 0
  · rw [if_pos h, if_pos h]
  · rw [if_neg h, if_neg h]
    by_cases h : i < nI 3
    · rw [if_pos h, if_pos h]
    · rw [if_neg h, if_neg h]
theorem k_tell (i : Int32) : zev r i_X5_tell 0 [some (.ref (r.1 + 0)), some (.int i)] [] (zmk r c0 c1 c2 I J Q N A Ga Va t) = some (none, zmk r c0 c1 c2 (va_up I 0 i) J Q N A Ga Va t) := by
  simp only [E_X5_tell_0, mp_0_7, Option.bind_some]
theorem k_found {f : Nat} (h1 : 1 ≤ f) (h6 : f < 6) : zev r i_X5_found 0 [some (.ref (r.1 + 0)), some (.int (nI f))] [] (zmk r c0 c1 c2 I J Q N A Ga Va t) = some (some (.int (-3)), zmk r c0 c1 c2 (va_up I 1 (nI f)) J (va_up Q 0 (upd (Q 0) f (Q 0 f + 1))) N A Ga Va t) := by
  have e1 : ¬ nI f < 1 := nI_nlt (b := 1) h1 (by omega)
  have e2 : ¬ (5 : Int32) < nI f := nI_nlt (a := 5) (by omega) (by decide)
  simp only [E_X5_found_0, if_neg e1, if_neg e2, mo_0, mg_0_0, mg_0_1, mg_0_2, mg_0_3, mg_0_4, mg_0_5, mg_0_6, mg_0_7, mg_0_8, mg_0_9, mg_0_10, mg_0_11, Option.bind_some, ma_22 h6, mw_22 h6, mp_0_10]
theorem k_rowAt (i : Int32) : zev r i_X5_rowAt 0 [some (.ref (r.1 + 0)), some (.int i)] [] (zmk r c0 c1 c2 I J Q N A Ga Va t) = some (some (if zhk 6 i = 0 then .null else .ref (r.1 + 23 + 2 * i.toNatClampNeg)), zmk r c0 c1 c2 I J Q N A Ga Va t) := by
  simp only [E_X5_rowAt_0, mo_0, mg_0_0, mg_0_1, mg_0_2, mg_0_3, mg_0_4, mg_0_5, mg_0_6, mg_0_7, mg_0_8, mg_0_9, mg_0_10, mg_0_11, Option.bind_some, mn_1, nI_of0]
  rcases pk_ix i (n := 6) (by decide) with h | h | ⟨j, hj, rfl⟩
  · rw [if_pos h, if_pos (show zhk 6 i = 0 by unfold zhk; rw [if_pos h])]
  · have h2 : ¬ i < nI 6 := Int32.not_lt.mpr h
    rw [if_neg h2, if_pos (show zhk 6 i = 0 by unfold zhk; rw [if_neg h2, ite_self])]
    rw [ite_self]
  · rw [if_neg (nI_pos (by omega)), if_pos (nI_lt hj (by decide)), zhk_in hj (by decide), if_neg i01, mq_1 hj, nI_clamp (by omega)]
    rfl
theorem k_textAt (i : Int32) : zev r i_X5_textAt 0 [some (.ref (r.1 + 0)), some (.int i)] [] (zmk r c0 c1 c2 I J Q N A Ga Va t) = some (some (if zhk 4 i = 0 then .null else .ref (r.1 + 35 + 2 * i.toNatClampNeg)), zmk r c0 c1 c2 I J Q N A Ga Va t) := by
  simp only [E_X5_textAt_0, mo_0, mg_0_0, mg_0_1, mg_0_2, mg_0_3, mg_0_4, mg_0_5, mg_0_6, mg_0_7, mg_0_8, mg_0_9, mg_0_10, mg_0_11, Option.bind_some, mn_2, nI_of0]
  rcases pk_ix i (n := 4) (by decide) with h | h | ⟨j, hj, rfl⟩
  · rw [if_pos h, if_pos (show zhk 4 i = 0 by unfold zhk; rw [if_pos h])]
  · have h2 : ¬ i < nI 4 := Int32.not_lt.mpr h
    rw [if_neg h2, if_pos (show zhk 4 i = 0 by unfold zhk; rw [if_neg h2, ite_self])]
    rw [ite_self]
  · rw [if_neg (nI_pos (by omega)), if_pos (nI_lt hj (by decide)), zhk_in hj (by decide), if_neg i01, mq_2 hj, nI_clamp (by omega)]
    rfl
theorem z_fill (r : zE) {n : Nat} (G : zA → zH) {a : Nat} (hn : n < 2 ^ 31) (hN : ∀ f, zaN r (G f) a = some n) (hS : ∀ f j y, j < n → zsI r (G f) a (nI j) y = some (G (upd f j y))) (f : zA) (v : Int32) : zev r i_J7_fill_53178 0 [some (.ref a), some (.int v), none, none] [] (G f) = some (none, G (fun i => if i < n then v else f i)) := by
  rw [E_J7_fill_53178_0, hN]
  refine (zloop (fun j (g : zA) => zev r i_J7_fill_53178 5 [some (.ref a), some (.int v), some (.int (nI j)), some (.int (nI n))] [] (G g)) (fun g => some (none, G g)) (fun g j => upd g j v) n (fun j g hj => ?_) (fun g => ?_) f).trans ?_
  · refine (E_J7_fill_53178_5 ..).trans ?_
    simp only [if_pos (nI_lt hj hn), hS g j v hj, Option.bind_some, nI_1]
  · refine (E_J7_fill_53178_5 ..).trans ?_
    simp only [if_neg (nI_nlt (Nat.le_refl n) hn)]
  · congr 3
    funext i
    have := zfd_inv (f := fun (g : zA) j => upd g j v) (fun j g => g i = if i < j then v else f i) (j := 0) (n := n) (s := f) (by simp) (fun s k _ _ h => by
      show upd s k v i = _
      unfold upd
      by_cases e : i = k
      · rw [if_pos e, if_pos (by omega)]
      · rw [if_neg e, h]
        by_cases e2 : i < k
        · rw [if_pos e2, if_pos (by omega)]
        · rw [if_neg e2, if_neg (by omega)])
    rw [this, Nat.zero_add]
end CONST
