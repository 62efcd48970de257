/-! THE LAW: from its entry to its end -/
theorem z_pure (r : zE) (b L : Nat) (xs : Nat → Int32) (hE : zEnv r b L xs) (hL : L ≤ 260) : ∃ g : zH, zev r 0 0 [some (.ref b), none, none, none, none, none, none, none, none, none, none, none, none, none, none, none, none, none, none, none, none, none, none, none, none, none, none, none, none] [] [] = some (some (.int 1), g) ∧ g.length ≤ 600000 ∧ zhs g ≤ 7302250 := by
  have E : zEk r := hE.2.2
  obtain ⟨h1, e1, hl, st1⟩ := i_first r
  obtain ⟨l, Ga, Va, h2, e2, sx2, g0, g1, m0, sy, ok, l1⟩ := w_deck E hE hL (sx_of st1)
  obtain ⟨ta, tu, tl, st2⟩ := sx2
  have r1 : zaI r h2 (r.1 + 49) 1 = some (nI (yCw l).2.1) := (st_g (j := 1) (by decide) st2).trans (by rw [g1])
  have e3 := ck_digest st2
  obtain ⟨h4, e4, st4⟩ := ck_keep (i := 0) (by decide) m0 st2
  rw [nl0] at e4
  have f1 : zev r i_X5_init 0 [some (.ref (r.1 + ([] : zH).length)), none] [] (([] : zH) ++ [.inr (.inr (5, [.null, .null, .null, .null, .null, .null, .null, .int 0, .long 0, .long 0, .int 0, .null]))]) = some (none, h1) := e1
  have f2 : (h1 ++ [.inl (27, fun _ => 0)] : zH).length = 50 := by simp [hl]
  have z0 : (0 : Int32) = 0 := rfl
  show zOK (zev r i_L_law 0 [some (.ref b), none, none, none, none, none, none, none, none, none, none, none, none, none, none, none, none, none, none, none, none, none, none, none, none, none, none, none, none] [] [])
  rw [E_L_law_0, f1, zcV_some, f2, hl, show ([] : zH).length = 0 from rfl, e2, zcI_some, if_neg i01, r1, Option.bind_some, if_pos (st_ob st2), e3, zcL_some, if_pos (st_ob st2), e4, zcI_some, if_pos z0]
  exact w_54 (l := l) (C := yCw l) E hE hL (by decide) rfl rfl va_same ok l1 m0 g0 g1 va_same rfl 3 0 0 _ Va (fun _ => none) h4 (by decide) (by decide) rfl rfl (fun h => absurd h (by decide)) sy (sx_of st4)
