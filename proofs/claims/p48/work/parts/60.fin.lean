/-! THE LAW'S WALK: whole -/
theorem zsz_a {q : Nat × zA} : zcs (.inl q) = q.1 := rfl
theorem zsz_r {q : Nat × Nat × (Nat → Option Nat)} : zcs (.inr (.inl q)) = q.2.1 := rfl
theorem zsz_0 {l : List Value} : zcs (.inr (.inr (0, l))) = zcs (.inr (.inr (0, []))) := rfl
theorem zsl_0 : zcs (.inr (.inr (0, []))) ≤ 100 := by decide
theorem zsz_1 {l : List Value} : zcs (.inr (.inr (1, l))) = zcs (.inr (.inr (1, []))) := rfl
theorem zsl_1 : zcs (.inr (.inr (1, []))) ≤ 100 := by decide
theorem zsz_2 {l : List Value} : zcs (.inr (.inr (2, l))) = zcs (.inr (.inr (2, []))) := rfl
theorem zsl_2 : zcs (.inr (.inr (2, []))) ≤ 100 := by decide
theorem zsz_4 {l : List Value} : zcs (.inr (.inr (4, l))) = zcs (.inr (.inr (4, []))) := rfl
theorem zsl_4 : zcs (.inr (.inr (4, []))) ≤ 100 := by decide
theorem zsz_5 {l : List Value} : zcs (.inr (.inr (5, l))) = zcs (.inr (.inr (5, []))) := rfl
theorem zsl_5 : zcs (.inr (.inr (5, []))) ≤ 100 := by decide
section WF
variable {r : zE} {C : zCs} {d : Nat} {M : Nat → zDk} {K : Nat → Option (Nat × (Nat → zDk))} {W Tx : Nat → Option (List Int32)} {Ga Va : zA} {n : Nat} {h : zH} {b tn : Nat} {bg dg : Int64} {x hg : Int32} {w : Nat} {l : List Int32} {M0 : Nat → zDk}
theorem st_room (n3 : n ≤ 1000) (st : zSx r C d M K W Tx Ga Va n h) : h.length ≤ 600000 ∧ zhs h ≤ 7302250 := by
  obtain ⟨ta, tu, tl, st⟩ := st
  obtain ⟨c, c2, I, J, Q, N, A, t, rfl, iv, t1, t2⟩ := st
  refine ⟨?_, ?_⟩
  · unfold zmk
    rw [List.length_append]
    simp only [List.length_cons, List.length_nil]
    omega
  · unfold zmk
    rw [zhs_app]
    simp only [zhs, zsz_a, zsz_r, zsz_0, zsz_1, zsz_2, zsz_4, zsz_5]
    have a0 := zsl_0
    have a1 := zsl_1
    have a2 := zsl_2
    have a4 := zsl_4
    have a5 := zsl_5
    omega
theorem w_202 (E : zEk r) (h6 : d < 59) (m0 : 0 < C.2.1) (hW0 : W 0 = none) (hd : dg = vDg C d (M d) K W Tx)
    (kk : ∀ W' h, W' 0 = none → (∀ j, 1 ≤ j → j < 6 → ∃ l, W' j = some l) → zSx r C d M K (W') Tx Ga Va n h → zOK (zev r i_L_law 54 [some (.ref b), some (.ref (r.1 + 0)), some (.ref (r.1 + 49)), some (.ref (r.1 + 50)), some (.int (nI C.2.1)), some (.long bg), none, some (.int (nI (tn + 1))), none, none, none, none, none, none, none, none, none, none, none, none, none, none, none, none, none, none, none, none, none] [] h)) : ∀ s w h, w + s = 3 → zSx r C d M K W Tx Ga Va n h → zOK (zev r i_L_law 202 [some (.ref b), some (.ref (r.1 + 0)), some (.ref (r.1 + 49)), some (.ref (r.1 + 50)), some (.int (nI C.2.1)), some (.long bg), none, some (.int (nI tn)), some (.int (x)), some (.int (sMany C (M d).1 0)), some (.int (nI d)), some (.long (dg)), none, some (.int (nI w)), none, none, none, none, none, none, none, none, none, none, none, none, none, none, none] [] h) := by
  intro s
  induction s with
  | zero =>
    intro w h e sx
    have : w = 3 := by omega
    subst this
    exact w_202e E h6 m0 hW0 kk sx
  | succ s ih =>
    intro w h e sx
    obtain ⟨ta, tu, tl, st⟩ := id sx
    have k := st_k st
    have ok := st_ok st
    have w3 : nI w < 3 := nI_lt (b := 3) (by omega) (by decide)
    rw [E_L_law_202, if_pos w3]
    exact w_220 E (by omega) k ok (by omega) (fun h y1 y2 sx => w_864 E (by omega) k ok.1 m0 (by omega) rfl rfl hd (fun h sx => ih (w + 1) h (by omega) sx) C.2.1 0 h (by omega) sx) C.2.1 0 h (by omega) sx
theorem w_90 (E : zEk r) (h6 : d < 59) (m0 : 0 < C.2.1) (g0 : Ga 0 = nI C.1) (hW0 : W 0 = none)
    (kk : ∀ W' h, W' 0 = none → (∀ j, 1 ≤ j → j < 6 → ∃ l, W' j = some l) → zSx r C d M K (W') Tx Ga Va n h → zOK (zev r i_L_law 54 [some (.ref b), some (.ref (r.1 + 0)), some (.ref (r.1 + 49)), some (.ref (r.1 + 50)), some (.int (nI C.2.1)), some (.long bg), none, some (.int (nI (tn + 1))), none, none, none, none, none, none, none, none, none, none, none, none, none, none, none, none, none, none, none, none, none] [] h)) : ∀ s i h, i + s = C.1 → zSx r C d M K W Tx Ga Va n h → zOK (zev r i_L_law 90 [some (.ref b), some (.ref (r.1 + 0)), some (.ref (r.1 + 49)), some (.ref (r.1 + 50)), some (.int (nI C.2.1)), some (.long bg), none, some (.int (nI tn)), some (.int (x)), some (.int (ySu (fun h => if sWho (M d).1 (nI h) 0 C.2.1 = -9 then 0 else 1) i)), some (.int (nI i)), none, none, none, none, none, none, none, none, none, none, none, none, none, none, none, none, none, none] [] h) := by
  intro s
  induction s with
  | zero =>
    intro i h e sx
    have : i = C.1 := by omega
    subst this
    obtain ⟨ta, tu, tl, st⟩ := sx
    have k := st_k st
    have k1 := k.1
    have ok := st_ok st
    have r0 : zaI r h (r.1 + 49) 0 = some (nI C.1) := (st_g (j := 0) (by decide) st).trans (by rw [g0])
    have e1 := ck_count (w := 2) (by decide) st
    rw [nl2, cnt_2] at e1
    have e2 := ck_digest st
    have e3 := ck_count (w := 3) (by decide) st
    rw [nl3, cnt_3] at e3
    have hc := hang_count k ok.1
    rw [E_L_law_90, r0, Option.bind_some, if_neg (nI_nlt (Nat.le_refl _) (by omega)), if_pos (st_ob st), e1, zcI_some, if_pos (st_ob st), e2, zcL_some, if_pos (st_ob st), e3, zcI_some, if_pos hc, hc]
    exact w_202 E h6 m0 hW0 rfl kk 3 0 h (by omega) (sx_of st)
  | succ s ih =>
    intro i h e sx
    obtain ⟨ta, tu, tl, st⟩ := sx
    have k := st_k st
    have k1 := k.1
    have k2 := k.2.1
    have hi : i < C.1 := by omega
    have r0 : zaI r h (r.1 + 49) 0 = some (nI C.1) := (st_g (j := 0) (by decide) st).trans (by rw [g0])
    obtain ⟨h1, e1, st1⟩ := ck_hook hi st
    have e2 := ck_asked st1
    have i1 : (1 : Int32) = 1 := rfl
    rw [E_L_law_90, r0, Option.bind_some, if_pos (nI_lt hi (by omega)), if_pos (st_ob st), e1, zcI_some, if_pos i1, if_pos (st_ob st1), e2, zcI_some, E_L_law_118]
    have go : ∀ h, zSx r C d M K W Tx Ga Va n h → zOK (zev r i_L_law 90 [some (.ref b), some (.ref (r.1 + 0)), some (.ref (r.1 + 49)), some (.ref (r.1 + 50)), some (.int (nI C.2.1)), some (.long bg), none, some (.int (nI tn)), some (.int (x)), some (.int (ySu (fun h => if sWho (M d).1 (nI h) 0 C.2.1 = -9 then 0 else 1) (i + 1))), some (.int (nI (i + 1))), none, none, none, none, none, none, none, none, none, none, none, none, none, none, none, none, none, none] [] h) := fun h sx => ih (i + 1) h (by omega) sx
    rw [su_succ] at go
    rcases who_ok (H := (M d).1) (v := nI i) C.2.1 0 with ⟨z, -⟩ | ⟨m, -, hm, hh, z⟩
    · rw [z, if_pos rfl] at go
      rw [z, if_pos rfl, if_pos (by decide), nI_1]
      exact go h1 (sx_of st1)
    · have n9 : ¬ nI m = -9 := nI_n9 (by omega)
      have hm' : m < C.2.1 := by omega
      obtain ⟨h3, e3, sx3⟩ := w_told4 hm' st1
      rw [z, if_neg n9] at go
      rw [z, if_neg n9, if_neg (nI_pos (by omega)), if_pos (nI_lt hm' (by omega)), e3, zcI_some, if_pos hh, if_neg (nI_pos (by omega)), nI_1]
      exact go h3 sx3
theorem vdg_w {D : zDk} {W' : Nat → Option (List Int32)} (e : ∀ j, j < 6 → W' j = W j) : vDg C d D K W' Tx = vDg C d D K W Tx := by
  have e1 : ∀ w, yCv C d D K W' Tx w = yCv C d D K W Tx w := fun w => by
    match w with
    | 0 => rfl
    | 1 => rfl
    | 2 => rfl
    | 3 => rfl
    | 4 => rfl
    | 5 => rfl
    | 6 =>
      show yTo W' 6 = yTo W 6
      unfold yTo
      exact zfd_congr fun s i _ hi => by rw [e i (by omega)]
    | 7 => rfl
    | w + 8 => rfl
  unfold vDg
  have e2 : (fun (a : Int64) w => yMx a (yCv C d D K W' Tx w)) = fun a w => yMx a (yCv C d D K W Tx w) := by
    funext a w
    rw [e1]
  rw [e2]
  congr 1
  exact zfd_congr fun s i _ hi => by rw [e i (by omega)]
theorem w_2021 (E : zEk r) (n3 : n ≤ 900) (hC : C = yCw l) (hb : bg = vDg (yCw l) 0 (yD0 l) (fun _ => none) (fun _ => none) Tx) (hT : Tx 0 = some l) (ok : (rAll (yTx l) l.length).1 = -9) (l1 : ∀ m, m < (yCw l).2.1 → ∃ a, 1 ≤ a ∧ a < 10 ∧ (yD0 l).2.1 m = nI a) : ∀ s j W h, j + s = 6 → (∀ i, i < j → W i = none) → (∀ i, j ≤ i → i < 6 → ∃ l, W i = some l) → zSx r C d M K W Tx Ga Va n h → zOK (zev r i_L_law 2021 [some (.ref b), some (.ref (r.1 + 0)), some (.ref (r.1 + 49)), some (.ref (r.1 + 50)), some (.int (nI C.2.1)), some (.long bg), none, some (.int (x)), some (.int (nI j)), none, none, none, none, none, none, none, none, none, none, none, none, none, none, none, none, none, none, none, none] [] h) := by
  intro s
  induction s with
  | zero =>
    intro j W h e w1 w2 sx
    have : j = 6 := by omega
    subst this
    obtain ⟨ta, tu, tl, st⟩ := sx
    obtain ⟨h1, e1, st1⟩ := ck_deck E (j := 0) (by decide) hT ok l1 st
    rw [nl0] at e1
    have e2 := ck_digest st1
    have rm := st_room (by omega) (sx_of st1)
    have eb : vDg (yCw l) 0 (yD0 l) (fun _ => none) W Tx = bg := by
      rw [hb]
      exact vdg_w w1
    rw [E_L_law_2021, if_neg (by decide), if_pos (st_ob st), e1, zcI_some, if_pos (by rw [hC]), if_pos (st_ob st1), e2, zcL_some, eb, if_pos (cmp_eq bg)]
    exact ⟨h1, rfl, rm.1, rm.2⟩
  | succ s ih =>
    intro j W h e w1 w2 sx
    obtain ⟨ta, tu, tl, st⟩ := sx
    obtain ⟨lj, hj⟩ := w2 j (Nat.le_refl _) (by omega)
    obtain ⟨h1, e1, st1⟩ := ck_tear (j := j) (by omega) hj st
    have j6 : nI j < 6 := nI_lt (b := 6) (by omega) (by decide)
    have i1 : (1 : Int32) = 1 := rfl
    rw [E_L_law_2021, if_pos j6, if_pos (st_ob st), e1, zcI_some, if_pos i1, nI_1]
    refine ih (j + 1) _ h1 (by omega) (fun i hi => ?_) (fun i i1 i6 => ?_) (sx_of st1)
    · by_cases z : i = j
      · rw [z, va_same]
      · rw [va_ne z]; exact w1 i (by omega)
    · rw [va_ne (by omega)]; exact w2 i (by omega) i6
theorem many_0 {H : zA} (k2 : C.2.1 ≤ 6) (e : ∀ m, m < C.2.1 → ¬ H m = -9) : sMany C H 0 = nI C.2.1 := by
  suffices key : ∀ n, n ≤ C.2.1 → zfd (fun (a : Int32) m => if sIn C H m 0 = 0 then a else a + 1) 0 n 0 = nI n from key C.2.1 (Nat.le_refl _)
  intro n
  induction n with
  | zero => exact fun _ => rfl
  | succ n ih =>
    intro hn
    have : ¬ sIn C H n 0 = 0 := by
      unfold sIn
      rw [if_neg (e n (by omega)), if_pos rfl]
      decide
    rw [zfd_succ, Nat.zero_add, ih (by omega), if_neg this, nI_1]
theorem tired_0 : sTired C (fun _ => 0) = 0 := by
  unfold sTired
  generalize C.2.1 = n
  suffices key : ∀ n j, zfd (fun (a : Int32) (_ : Nat) => a + 0) j n 0 = 0 from key n 0
  intro n
  induction n with
  | zero => exact fun _ => rfl
  | succ n ih => exact fun j => by rw [zfd_succ, ih j]; rfl
theorem w_54 (E : zEk r) {L : Nat} {xs : Nat → Int32} (hE : zEnv r b L xs) (hL : L ≤ 260) (n3 : n ≤ 900) (hC : C = yCw l) (hb : bg = vDg (yCw l) 0 (yD0 l) (fun _ => none) (fun _ => none) Tx) (hT : Tx 0 = some l) (ok : (rAll (yTx l) l.length).1 = -9) (l1 : ∀ m, m < (yCw l).2.1 → ∃ a, 1 ≤ a ∧ a < 10 ∧ (yD0 l).2.1 m = nI a) (m0 : 0 < C.2.1) (g0 : Ga 0 = nI C.1) (g1 : Ga 1 = nI C.2.1) (hK : K 0 = some (0, M0)) (hM0 : M0 0 = yD0 l) :
    ∀ s t d M Va W h, t + s = 3 → d ≤ 4 * t → M 0 = yD0 l → W 0 = none → (0 < t → ∀ j, 1 ≤ j → j < 6 → ∃ l, W j = some l) → zSy C (M d) Va → zSx r C d M K W Tx Ga Va n h → zOK (zev r i_L_law 54 [some (.ref b), some (.ref (r.1 + 0)), some (.ref (r.1 + 49)), some (.ref (r.1 + 50)), some (.int (nI C.2.1)), some (.long bg), none, some (.int (nI t)), none, none, none, none, none, none, none, none, none, none, none, none, none, none, none, none, none, none, none, none, none] [] h) := by
  intro s
  induction s with
  | zero =>
    intro t d M Va W h e hd hM hW0 hW sy sx
    have : t = 3 := by omega
    subst this
    obtain ⟨ta, tu, tl, st⟩ := sx
    have k := st_k st
    have k2 := k.2.1
    have e1 := ck_count (w := 2) (by decide) st
    rw [nl2, cnt_2] at e1
    obtain ⟨h2, e2, st2⟩ := ck_keep (i := 1) (by decide) m0 st
    rw [nl1] at e2
    obtain ⟨h3, e3, st3⟩ := ck_on (i := 0) (by decide) (by rw [va_ne (by decide)]; exact hK) st2
    rw [nl0] at e3
    have e4 := ck_count (w := 3) (by decide) st3
    have mn : sMany C (M0 0).1 0 = nI C.2.1 := many_0 k2 fun m hm => by
      rw [hM0]
      exact nI_n9 (by omega)
    rw [nl3, cnt_3, mn] at e4
    obtain ⟨h5, e5, st5⟩ := ck_on (i := 1) (by decide) va_same st3
    rw [nl1] at e5
    obtain ⟨h6, e6, st6⟩ := ck_undo (e := 0) (M' := M) (by omega) (fun _ _ => rfl) st5
    rw [nl0, Nat.sub_zero] at e6
    have e7 := ck_count (w := 4) (by decide) st6
    have td : yCv C 0 (M 0) (va_up K 1 (some (d, M))) W Tx 4 = 0 := by
      rw [hM]
      exact tired_0
    rw [nl4, td] at e7
    have z0 : (0 : Int32) = 0 := rfl
    rw [E_L_law_54, if_neg (by decide), if_pos (st_ob st), e1, zcI_some, if_pos (st_ob st), e2, zcI_some, if_pos rfl, if_pos (st_ob st2), e3, zcI_some, if_pos z0, if_pos (st_ob st3), e4, zcI_some, if_pos rfl, if_pos (st_ob st3), e5, zcI_some, if_pos rfl, if_pos (st_ob st5), e6, zcI_some, if_pos rfl, if_pos (st_ob st6), e7, zcI_some, if_pos z0]
    exact w_2021 E n3 hC hb hT ok l1 5 1 W h6 (by omega) (fun i hi => by
      have : i = 0 := by omega
      rw [this]; exact hW0) (fun i i1 i6 => hW (by decide) i i1 i6) (sx_of st6)
  | succ s ih =>
    intro t d M Va W h e hd hM hW0 hW sy sx
    obtain ⟨v, ev⟩ := w_cell hE h (k := 7 + t) (by omega) hL
    have o7 : (7 : Int32) + nI t = nI (7 + t) := nI_add 7 t
    have t3 : nI t < 3 := nI_lt (b := 3) (by omega) (by decide)
    obtain ⟨d', M', Va', h', hd', hM', es, sy', sx'⟩ := w_stir (e := 4 * t + 4) (by omega) (by omega) m0 g0 g1 hM v sy sx
    rw [E_L_law_54, if_pos t3, o7, ev, zcI_some, es, zcI_some, if_neg i01]
    exact w_90 (tn := t) E (by omega) m0 g0 hW0 (fun W' h w1 w2 sx => ih (t + 1) d' M' Va' W' h (by omega) (by omega) hM' w1 (fun _ => w2) sy' sx) C.1 0 h' (by omega) sx'
end WF
