/-! ONE STEP OF THE PURE MACHINE IS ONE OF THE MACHINE -/
section INV2
variable {r : zE} {h g : zH}
theorem zbind_inv {α β : Type} {x : Option α} {f : α → Option β} {q : β} (e : x.bind f = some q) : ∃ v, x = some v ∧ f v = some q := by
  cases x with
  | none => cases e
  | some v => exact ⟨v, rfl, e⟩
theorem zif_inv {β : Type} {c : Prop} [Decidable c] {x : Option β} {q : β} (e : (if c then x else none) = some q) : c ∧ x = some q := by
  by_cases hc : c
  · rw [if_pos hc] at e; exact ⟨hc, e⟩
  · rw [if_neg hc] at e; cases e
theorem zifn_inv {β : Type} {c : Prop} [Decidable c] {x : Option β} {q : β} (e : (if c then none else x) = some q) : ¬ c ∧ x = some q := by
  by_cases hc : c
  · rw [if_pos hc] at e; cases e
  · rw [if_neg hc] at e; exact ⟨hc, e⟩
theorem zix_inv {i : Int32} {n j : Nat} (e : zix i n = some j) : vp_in i n ∧ j = i.toNatClampNeg := by
  unfold zix at e
  obtain ⟨hc, e⟩ := zifn_inv e
  cases e
  exact ⟨hc, rfl⟩
theorem zixm_inv {α : Type} {i : Int32} {n : Nat} {f : Nat → α} {x : α} (e : (zix i n).map f = some x) : vp_in i n ∧ x = f i.toNatClampNeg := by
  cases hj : zix i n with
  | none => rw [hj] at e; cases e
  | some j =>
    obtain ⟨h1, rfl⟩ := zix_inv hj
    rw [hj] at e
    cases e
    exact ⟨h1, rfl⟩
theorem zgI_inv {a ci k : Nat} {x : Int32} (e : zgI r h a ci k = some x) : ∃ fs, zget r h a = some (.inr (.inr (ci, fs))) ∧ fs[k]? = some (.int x) := by
  unfold zgI at e
  split at e
  · rename_i c fs hz
    by_cases hci : c = ci
    · subst hci
      rw [if_pos rfl] at e
      split at e
      · rename_i y hy
        cases e
        exact ⟨fs, hz, hy⟩
      · cases e
    · rw [if_neg hci] at e; cases e
  · cases e
theorem zgL_inv {a ci k : Nat} {x : Int64} (e : zgL r h a ci k = some x) : ∃ fs, zget r h a = some (.inr (.inr (ci, fs))) ∧ fs[k]? = some (.long x) := by
  unfold zgL at e
  split at e
  · rename_i c fs hz
    by_cases hci : c = ci
    · subst hci
      rw [if_pos rfl] at e
      split at e
      · rename_i y hy
        cases e
        exact ⟨fs, hz, hy⟩
      · cases e
    · rw [if_neg hci] at e; cases e
  · cases e
theorem zgR_inv {a ci k : Nat} {x : Nat} (e : zgR r h a ci k = some x) : ∃ fs, zget r h a = some (.inr (.inr (ci, fs))) ∧ fs[k]? = some (.ref x) := by
  unfold zgR at e
  split at e
  · rename_i c fs hz
    by_cases hci : c = ci
    · subst hci
      rw [if_pos rfl] at e
      split at e
      · rename_i y hy
        cases e
        exact ⟨fs, hz, hy⟩
      · cases e
    · rw [if_neg hci] at e; cases e
  · cases e
theorem zpF_inv {a ci k : Nat} {v : Value} (e : zpF r h a ci k v = some g) : ∃ fs, zget r h a = some (.inr (.inr (ci, fs))) ∧ k < fs.length ∧ g = h.set (a - r.1) (.inr (.inr (ci, fs.set k v))) := by
  unfold zpF at e
  split at e
  · rename_i c fs hz
    by_cases hci : c = ci ∧ k < fs.length
    · rw [if_pos hci] at e
      obtain ⟨rfl, hk⟩ := hci
      cases e
      exact ⟨fs, hz, hk, rfl⟩
    · rw [if_neg hci] at e; cases e
  · cases e
theorem zaI_inv {a : Nat} {i x : Int32} (e : zaI r h a i = some x) : ∃ n f, (zget r h a = some (.inl (n, f)) ∨ ¬ r.1 ≤ a ∧ r.2.1 a = some (false, n, f)) ∧ vp_in i n ∧ x = f i.toNatClampNeg := by
  unfold zaI at e
  split at e
  · rename_i ha
    split at e
    · rename_i n f hz
      exact ⟨n, f, Or.inl (by unfold zget; rw [if_pos ha]; exact hz), zixm_inv e⟩
    · cases e
  · rename_i ha
    split at e
    · rename_i n f hz
      exact ⟨n, f, Or.inr ⟨ha, hz⟩, zixm_inv e⟩
    · cases e
theorem zaC_inv {a : Nat} {i x : Int32} (e : zaC r a i = some x) : ∃ n f, (¬ r.1 ≤ a ∧ r.2.1 a = some (true, n, f)) ∧ vp_in i n ∧ x = f i.toNatClampNeg := by
  unfold zaC at e
  obtain ⟨ha, e⟩ := zifn_inv e
  split at e
  · rename_i n f hz
    exact ⟨n, f, ⟨ha, hz⟩, zixm_inv e⟩
  · cases e
theorem zaQ_inv {a : Nat} {i : Int32} {x : Option Nat} (e : zaQ r h a i = some x) : ∃ c n f, zget r h a = some (.inr (.inl (c, n, f))) ∧ (c = 4 ∨ c = 2) ∧ vp_in i n ∧ x = f i.toNatClampNeg := by
  unfold zaQ at e
  split at e
  · rename_i c n f hz
    obtain ⟨hc, e⟩ := zif_inv e
    exact ⟨c, n, f, hz, hc, zixm_inv e⟩
  · cases e
theorem zaN_inv {a N : Nat} (e : zaN r h a = some N) : (∃ f, zget r h a = some (.inl (N, f))) ∨ (∃ c f, zget r h a = some (.inr (.inl (c, N, f))) ∧ (c = 4 ∨ c = 2)) ∨ (∃ b f, ¬ r.1 ≤ a ∧ r.2.1 a = some (b, N, f)) := by
  unfold zaN at e
  split at e
  · rename_i ha
    split at e
    · rename_i n f hz
      cases e
      exact Or.inl ⟨f, by unfold zget; rw [if_pos ha]; exact hz⟩
    · rename_i c n f hz
      obtain ⟨hc, e⟩ := zif_inv e
      cases e
      exact Or.inr (Or.inl ⟨c, f, by unfold zget; rw [if_pos ha]; exact hz, hc⟩)
    · cases e
  · rename_i ha
    split at e
    · rename_i b n f hz
      cases e
      exact Or.inr (Or.inr ⟨b, f, ha, hz⟩)
    · cases e
theorem zsI_inv {a : Nat} {i x : Int32} (e : zsI r h a i x = some g) : ∃ n f, zget r h a = some (.inl (n, f)) ∧ vp_in i n ∧ g = h.set (a - r.1) (.inl (n, upd f i.toNatClampNeg x)) := by
  unfold zsI at e
  split at e
  · rename_i n f hz
    obtain ⟨h1, h2⟩ := zixm_inv e
    exact ⟨n, f, hz, h1, h2⟩
  · cases e
theorem zob_inv {a ci : Nat} (e : zob r h a ci = true) : ∃ fs, zget r h a = some (.inr (.inr (ci, fs))) := by
  unfold zob at e
  split at e
  · rename_i c fs hz
    have := of_decide_eq_true e
    subst this
    exact ⟨fs, hz⟩
  · cases e
theorem zsQ_inv {a v : Nat} {i : Int32} (e : zsQ r h a i v = some g) : ∃ c n f vs, zget r h a = some (.inr (.inl (c, n, f))) ∧ (c = 4 ∨ c = 2) ∧ zget r h v = some (.inr (.inr (c, vs))) ∧ vp_in i n ∧ g = h.set (a - r.1) (.inr (.inl (c, n, va_up f i.toNatClampNeg (some v)))) := by
  unfold zsQ at e
  split at e
  · rename_i c n f hz
    obtain ⟨⟨hc1, hc2⟩, e⟩ := zif_inv e
    obtain ⟨vs, hv⟩ := zob_inv hc1
    obtain ⟨h1, h2⟩ := zixm_inv e
    exact ⟨c, n, f, vs, hz, hc2, hv, h1, h2⟩
  · cases e
theorem zcp_inv {a0 a1 : Nat} {sp dp n : Int32} (e : zcp r h a0 sp a1 dp n = some g) : ∃ n0 f n1 f1, zget r h a0 = some (.inl (n0, f)) ∧ zget r h a1 = some (.inl (n1, f1)) ∧ ¬ (sp < 0 ∨ dp < 0 ∨ n < 0 ∨ n0 < sp.toNatClampNeg + n.toNatClampNeg ∨ n1 < dp.toNatClampNeg + n.toNatClampNeg) ∧ g = h.set (a1 - r.1) (.inl (n1, va_cpy f f1 sp.toNatClampNeg dp.toNatClampNeg n.toNatClampNeg)) := by
  unfold zcp at e
  split at e
  · rename_i n0 f n1 f1 hz hz1
    obtain ⟨hc, e⟩ := zifn_inv e
    cases e
    exact ⟨n0, f, n1, f1, hz, hz1, hc, rfl⟩
  · cases e
end INV2
section STEP
variable {l : Launch} {G : zG} {r : zE} {n : Nat} {mi pc len : Nat} {w : zL} {lv : List (Option Value)} {st : List Value} {h g : zH} {v : Option Value}
theorem zs_iadd (ih : zSnd l G r n) (hd : decode (zB mi) pc = .ok (.iadd, len)) (hA : zokA mi pc len .iadd w = true) (hq : zx r (zrun r n) (zrun r n) mi pc len .iadd w lv st h = some (v, g)) : zGo l G r mi v g pc lv st h := by
  obtain rfl := zA1 hA
  unfold zx at hq
  dsimp only at hq
  obtain ⟨x, y, t, rfl, hq2⟩ := zp2i_inv hq
  replace hq := hq2
  exact (ih _ _ _ _ _ _ _ hq).row fun hF _ _ _ _ k => lv_iadd hF.1 hF.2.1 hd k
theorem zs_isub (ih : zSnd l G r n) (hd : decode (zB mi) pc = .ok (.isub, len)) (hA : zokA mi pc len .isub w = true) (hq : zx r (zrun r n) (zrun r n) mi pc len .isub w lv st h = some (v, g)) : zGo l G r mi v g pc lv st h := by
  obtain rfl := zA1 hA
  unfold zx at hq
  dsimp only at hq
  obtain ⟨x, y, t, rfl, hq2⟩ := zp2i_inv hq
  replace hq := hq2
  exact (ih _ _ _ _ _ _ _ hq).row fun hF _ _ _ _ k => lv_isub hF.1 hF.2.1 hd k
theorem zs_imul (ih : zSnd l G r n) (hd : decode (zB mi) pc = .ok (.imul, len)) (hA : zokA mi pc len .imul w = true) (hq : zx r (zrun r n) (zrun r n) mi pc len .imul w lv st h = some (v, g)) : zGo l G r mi v g pc lv st h := by
  obtain rfl := zA1 hA
  unfold zx at hq
  dsimp only at hq
  obtain ⟨x, y, t, rfl, hq2⟩ := zp2i_inv hq
  replace hq := hq2
  exact (ih _ _ _ _ _ _ _ hq).row fun hF _ _ _ _ k => lv_imul hF.1 hF.2.1 hd k
theorem zs_iand (ih : zSnd l G r n) (hd : decode (zB mi) pc = .ok (.iand, len)) (hA : zokA mi pc len .iand w = true) (hq : zx r (zrun r n) (zrun r n) mi pc len .iand w lv st h = some (v, g)) : zGo l G r mi v g pc lv st h := by
  obtain rfl := zA1 hA
  unfold zx at hq
  dsimp only at hq
  obtain ⟨x, y, t, rfl, hq2⟩ := zp2i_inv hq
  replace hq := hq2
  exact (ih _ _ _ _ _ _ _ hq).row fun hF _ _ _ _ k => lv_iand hF.1 hF.2.1 hd k
theorem zs_ior (ih : zSnd l G r n) (hd : decode (zB mi) pc = .ok (.ior, len)) (hA : zokA mi pc len .ior w = true) (hq : zx r (zrun r n) (zrun r n) mi pc len .ior w lv st h = some (v, g)) : zGo l G r mi v g pc lv st h := by
  obtain rfl := zA1 hA
  unfold zx at hq
  dsimp only at hq
  obtain ⟨x, y, t, rfl, hq2⟩ := zp2i_inv hq
  replace hq := hq2
  exact (ih _ _ _ _ _ _ _ hq).row fun hF _ _ _ _ k => lv_ior hF.1 hF.2.1 hd k
theorem zs_ixor (ih : zSnd l G r n) (hd : decode (zB mi) pc = .ok (.ixor, len)) (hA : zokA mi pc len .ixor w = true) (hq : zx r (zrun r n) (zrun r n) mi pc len .ixor w lv st h = some (v, g)) : zGo l G r mi v g pc lv st h := by
  obtain rfl := zA1 hA
  unfold zx at hq
  dsimp only at hq
  obtain ⟨x, y, t, rfl, hq2⟩ := zp2i_inv hq
  replace hq := hq2
  exact (ih _ _ _ _ _ _ _ hq).row fun hF _ _ _ _ k => lv_ixor hF.1 hF.2.1 hd k
theorem zs_ishl (ih : zSnd l G r n) (hd : decode (zB mi) pc = .ok (.ishl, len)) (hA : zokA mi pc len .ishl w = true) (hq : zx r (zrun r n) (zrun r n) mi pc len .ishl w lv st h = some (v, g)) : zGo l G r mi v g pc lv st h := by
  obtain rfl := zA1 hA
  unfold zx at hq
  dsimp only at hq
  obtain ⟨x, y, t, rfl, hq2⟩ := zp2i_inv hq
  replace hq := hq2
  exact (ih _ _ _ _ _ _ _ hq).row fun hF _ _ _ _ k => lv_ishl hF.1 hF.2.1 hd k
theorem zs_ishr (ih : zSnd l G r n) (hd : decode (zB mi) pc = .ok (.ishr, len)) (hA : zokA mi pc len .ishr w = true) (hq : zx r (zrun r n) (zrun r n) mi pc len .ishr w lv st h = some (v, g)) : zGo l G r mi v g pc lv st h := by
  obtain rfl := zA1 hA
  unfold zx at hq
  dsimp only at hq
  obtain ⟨x, y, t, rfl, hq2⟩ := zp2i_inv hq
  replace hq := hq2
  exact (ih _ _ _ _ _ _ _ hq).row fun hF _ _ _ _ k => lv_ishr hF.1 hF.2.1 hd k
theorem zs_iushr (ih : zSnd l G r n) (hd : decode (zB mi) pc = .ok (.iushr, len)) (hA : zokA mi pc len .iushr w = true) (hq : zx r (zrun r n) (zrun r n) mi pc len .iushr w lv st h = some (v, g)) : zGo l G r mi v g pc lv st h := by
  obtain rfl := zA1 hA
  unfold zx at hq
  dsimp only at hq
  obtain ⟨x, y, t, rfl, hq2⟩ := zp2i_inv hq
  replace hq := hq2
  exact (ih _ _ _ _ _ _ _ hq).row fun hF _ _ _ _ k => lv_iushr hF.1 hF.2.1 hd rfl k
theorem zs_idiv (ih : zSnd l G r n) (hd : decode (zB mi) pc = .ok (.idiv, len)) (hA : zokA mi pc len .idiv w = true) (hq : zx r (zrun r n) (zrun r n) mi pc len .idiv w lv st h = some (v, g)) : zGo l G r mi v g pc lv st h := by
  obtain rfl := zA1 hA
  unfold zx at hq
  dsimp only at hq
  obtain ⟨x, y, t, rfl, hq2⟩ := zp2i_inv hq
  replace hq := hq2
  obtain ⟨hc, hq⟩ := zifn_inv hq
  exact (ih _ _ _ _ _ _ _ hq).row fun hF _ _ _ _ k => lv_idiv hF.1 hF.2.1 hd hc k
theorem zs_irem (ih : zSnd l G r n) (hd : decode (zB mi) pc = .ok (.irem, len)) (hA : zokA mi pc len .irem w = true) (hq : zx r (zrun r n) (zrun r n) mi pc len .irem w lv st h = some (v, g)) : zGo l G r mi v g pc lv st h := by
  obtain rfl := zA1 hA
  unfold zx at hq
  dsimp only at hq
  obtain ⟨x, y, t, rfl, hq2⟩ := zp2i_inv hq
  replace hq := hq2
  obtain ⟨hc, hq⟩ := zifn_inv hq
  exact (ih _ _ _ _ _ _ _ hq).row fun hF _ _ _ _ k => lv_irem hF.1 hF.2.1 hd hc k
theorem zs_ladd (ih : zSnd l G r n) (hd : decode (zB mi) pc = .ok (.ladd, len)) (hA : zokA mi pc len .ladd w = true) (hq : zx r (zrun r n) (zrun r n) mi pc len .ladd w lv st h = some (v, g)) : zGo l G r mi v g pc lv st h := by
  obtain rfl := zA1 hA
  unfold zx at hq
  dsimp only at hq
  obtain ⟨x, y, t, rfl, hq2⟩ := zp2l_inv hq
  replace hq := hq2
  exact (ih _ _ _ _ _ _ _ hq).row fun hF _ _ _ _ k => lv_ladd hF.1 hF.2.1 hd k
theorem zs_lmul (ih : zSnd l G r n) (hd : decode (zB mi) pc = .ok (.lmul, len)) (hA : zokA mi pc len .lmul w = true) (hq : zx r (zrun r n) (zrun r n) mi pc len .lmul w lv st h = some (v, g)) : zGo l G r mi v g pc lv st h := by
  obtain rfl := zA1 hA
  unfold zx at hq
  dsimp only at hq
  obtain ⟨x, y, t, rfl, hq2⟩ := zp2l_inv hq
  replace hq := hq2
  exact (ih _ _ _ _ _ _ _ hq).row fun hF _ _ _ _ k => lv_lmul hF.1 hF.2.1 hd k
theorem zs_ldiv (ih : zSnd l G r n) (hd : decode (zB mi) pc = .ok (.ldiv, len)) (hA : zokA mi pc len .ldiv w = true) (hq : zx r (zrun r n) (zrun r n) mi pc len .ldiv w lv st h = some (v, g)) : zGo l G r mi v g pc lv st h := by
  obtain rfl := zA1 hA
  unfold zx at hq
  dsimp only at hq
  obtain ⟨x, y, t, rfl, hq2⟩ := zp2l_inv hq
  replace hq := hq2
  obtain ⟨hc, hq⟩ := zifn_inv hq
  exact (ih _ _ _ _ _ _ _ hq).row fun hF _ _ _ _ k => lv_ldiv hF.1 hF.2.1 hd hc k
theorem zs_lrem (ih : zSnd l G r n) (hd : decode (zB mi) pc = .ok (.lrem, len)) (hA : zokA mi pc len .lrem w = true) (hq : zx r (zrun r n) (zrun r n) mi pc len .lrem w lv st h = some (v, g)) : zGo l G r mi v g pc lv st h := by
  obtain rfl := zA1 hA
  unfold zx at hq
  dsimp only at hq
  obtain ⟨x, y, t, rfl, hq2⟩ := zp2l_inv hq
  replace hq := hq2
  obtain ⟨hc, hq⟩ := zifn_inv hq
  exact (ih _ _ _ _ _ _ _ hq).row fun hF _ _ _ _ k => lv_lrem hF.1 hF.2.1 hd hc k
theorem zs_lcmp (ih : zSnd l G r n) (hd : decode (zB mi) pc = .ok (.lcmp, len)) (hA : zokA mi pc len .lcmp w = true) (hq : zx r (zrun r n) (zrun r n) mi pc len .lcmp w lv st h = some (v, g)) : zGo l G r mi v g pc lv st h := by
  obtain rfl := zA1 hA
  unfold zx at hq
  dsimp only at hq
  obtain ⟨x, y, t, rfl, hq2⟩ := zp2l_inv hq
  replace hq := hq2
  exact (ih _ _ _ _ _ _ _ hq).row fun hF _ _ _ _ k => W.lcmp hF.1 hF.2.1 hd k
theorem zs_ineg (ih : zSnd l G r n) (hd : decode (zB mi) pc = .ok (.ineg, len)) (hA : zokA mi pc len .ineg w = true) (hq : zx r (zrun r n) (zrun r n) mi pc len .ineg w lv st h = some (v, g)) : zGo l G r mi v g pc lv st h := by
  obtain rfl := zA1 hA
  unfold zx at hq
  dsimp only at hq
  obtain ⟨x, t, rfl, hq2⟩ := zp1i_inv hq
  replace hq := hq2
  exact (ih _ _ _ _ _ _ _ hq).row fun hF _ _ _ _ k => lv_ineg hF.1 hF.2.1 hd k
theorem zs_lneg (ih : zSnd l G r n) (hd : decode (zB mi) pc = .ok (.lneg, len)) (hA : zokA mi pc len .lneg w = true) (hq : zx r (zrun r n) (zrun r n) mi pc len .lneg w lv st h = some (v, g)) : zGo l G r mi v g pc lv st h := by
  obtain rfl := zA1 hA
  unfold zx at hq
  dsimp only at hq
  obtain ⟨x, t, rfl, hq2⟩ := zp1l_inv hq
  replace hq := hq2
  exact (ih _ _ _ _ _ _ _ hq).row fun hF _ _ _ _ k => lv_lneg hF.1 hF.2.1 hd k
theorem zs_i2l (ih : zSnd l G r n) (hd : decode (zB mi) pc = .ok (.i2l, len)) (hA : zokA mi pc len .i2l w = true) (hq : zx r (zrun r n) (zrun r n) mi pc len .i2l w lv st h = some (v, g)) : zGo l G r mi v g pc lv st h := by
  obtain rfl := zA1 hA
  unfold zx at hq
  dsimp only at hq
  obtain ⟨x, t, rfl, hq2⟩ := zp1i_inv hq
  replace hq := hq2
  exact (ih _ _ _ _ _ _ _ hq).row fun hF _ _ _ _ k => lv_i2l hF.1 hF.2.1 hd rfl k
theorem zs_l2i (ih : zSnd l G r n) (hd : decode (zB mi) pc = .ok (.l2i, len)) (hA : zokA mi pc len .l2i w = true) (hq : zx r (zrun r n) (zrun r n) mi pc len .l2i w lv st h = some (v, g)) : zGo l G r mi v g pc lv st h := by
  obtain rfl := zA1 hA
  unfold zx at hq
  dsimp only at hq
  obtain ⟨x, t, rfl, hq2⟩ := zp1l_inv hq
  replace hq := hq2
  exact (ih _ _ _ _ _ _ _ hq).row fun hF _ _ _ _ k => lv_l2i hF.1 hF.2.1 hd rfl k
theorem zs_i2b (ih : zSnd l G r n) (hd : decode (zB mi) pc = .ok (.i2b, len)) (hA : zokA mi pc len .i2b w = true) (hq : zx r (zrun r n) (zrun r n) mi pc len .i2b w lv st h = some (v, g)) : zGo l G r mi v g pc lv st h := by
  obtain rfl := zA1 hA
  unfold zx at hq
  dsimp only at hq
  obtain ⟨x, t, rfl, hq2⟩ := zp1i_inv hq
  replace hq := hq2
  exact (ih _ _ _ _ _ _ _ hq).row fun hF _ _ _ _ k => lv_i2b hF.1 hF.2.1 hd rfl k
theorem zs_dup (ih : zSnd l G r n) (hd : decode (zB mi) pc = .ok (.dup, len)) (hA : zokA mi pc len .dup w = true) (hq : zx r (zrun r n) (zrun r n) mi pc len .dup w lv st h = some (v, g)) : zGo l G r mi v g pc lv st h := by
  obtain rfl := zA1 hA
  unfold zx at hq
  dsimp only at hq
  obtain ⟨u, t, rfl, hc, hq2⟩ := zp1v_inv hq
  replace hq := hq2
  exact (ih _ _ _ _ _ _ _ hq).row fun hF _ _ _ _ k => lv_dup hF.1 hF.2.1 hd hc k
theorem zs_pop (ih : zSnd l G r n) (hd : decode (zB mi) pc = .ok (.pop, len)) (hA : zokA mi pc len .pop w = true) (hq : zx r (zrun r n) (zrun r n) mi pc len .pop w lv st h = some (v, g)) : zGo l G r mi v g pc lv st h := by
  obtain rfl := zA1 hA
  unfold zx at hq
  dsimp only at hq
  obtain ⟨u, t, rfl, hc, hq2⟩ := zp1v_inv hq
  replace hq := hq2
  exact (ih _ _ _ _ _ _ _ hq).row fun hF _ _ _ _ k => lv_pop hF.1 hF.2.1 hd hc k
theorem zs_dup2 (ih : zSnd l G r n) (hd : decode (zB mi) pc = .ok (.dup2, len)) (hA : zokA mi pc len .dup2 w = true) (hq : zx r (zrun r n) (zrun r n) mi pc len .dup2 w lv st h = some (v, g)) : zGo l G r mi v g pc lv st h := by
  obtain rfl := zA1 hA
  unfold zx at hq
  dsimp only at hq
  obtain ⟨u, u2, t, rfl, hc, hq2⟩ := zp2v_inv hq
  replace hq := hq2
  exact (ih _ _ _ _ _ _ _ hq).row fun hF _ _ _ _ k => lv_dup2_11 hF.1 hF.2.1 hd hc.1 hc.2 k
theorem zs_iconst {i : Int} (ih : zSnd l G r n) (hd : decode (zB mi) pc = .ok ((.iconst i), len)) (hA : zokA mi pc len (.iconst i) w = true) (hq : zx r (zrun r n) (zrun r n) mi pc len (.iconst i) w lv st h = some (v, g)) : zGo l G r mi v g pc lv st h := by
  obtain rfl := zA1 hA
  unfold zx at hq
  dsimp only at hq
  exact (ih _ _ _ _ _ _ _ hq).row fun hF _ _ _ _ k => lv_iconst hF.1 hF.2.1 hd rfl k
theorem zs_lconst {i : Fin 2} (ih : zSnd l G r n) (hd : decode (zB mi) pc = .ok ((.lconst i), len)) (hA : zokA mi pc len (.lconst i) w = true) (hq : zx r (zrun r n) (zrun r n) mi pc len (.lconst i) w lv st h = some (v, g)) : zGo l G r mi v g pc lv st h := by
  obtain rfl := zA1 hA
  unfold zx at hq
  dsimp only at hq
  exact (ih _ _ _ _ _ _ _ hq).row fun hF _ _ _ _ k => lv_lconst hF.1 hF.2.1 hd rfl k
theorem zs_bipush {i : Int} (ih : zSnd l G r n) (hd : decode (zB mi) pc = .ok ((.bipush i), len)) (hA : zokA mi pc len (.bipush i) w = true) (hq : zx r (zrun r n) (zrun r n) mi pc len (.bipush i) w lv st h = some (v, g)) : zGo l G r mi v g pc lv st h := by
  obtain rfl := zA2 hA
  unfold zx at hq
  dsimp only at hq
  exact (ih _ _ _ _ _ _ _ hq).row fun hF _ _ _ _ k => lv_bipush hF.1 hF.2.1 hd (zAdc hA) k
theorem zs_sipush {i : Int} (ih : zSnd l G r n) (hd : decode (zB mi) pc = .ok ((.sipush i), len)) (hA : zokA mi pc len (.sipush i) w = true) (hq : zx r (zrun r n) (zrun r n) mi pc len (.sipush i) w lv st h = some (v, g)) : zGo l G r mi v g pc lv st h := by
  obtain rfl := zA3 hA
  unfold zx at hq
  dsimp only at hq
  exact (ih _ _ _ _ _ _ _ hq).row fun hF _ _ _ _ k => lv_sipush hF.1 hF.2.1 hd (zAdc hA) k
theorem zs_ldc {i : Nat} {u : List Nat} (ih : zSnd l G r n) (hd : decode (zB mi) pc = .ok ((.ldc i), len)) (hA : zokA mi pc len (.ldc i) w = true) (hB : zokB mi (.ldc i) w u = true) (hq : zx r (zrun r n) (zrun r n) mi pc len (.ldc i) w lv st h = some (v, g)) : zGo l G r mi v g pc lv st h := by
  obtain rfl := zA2 hA
  unfold zx at hq
  dsimp only at hq
  exact (ih _ _ _ _ _ _ _ hq).row fun hF _ _ _ _ k => lv_ldc hF.1 hF.2.1 hF.2.2.2.1 (hF.2.2.2.2.1 _ (zgt_of (zmem_in hB) rfl)) hd k
theorem zs_ldc_w {i : Nat} {u : List Nat} (ih : zSnd l G r n) (hd : decode (zB mi) pc = .ok ((.ldc_w i), len)) (hA : zokA mi pc len (.ldc_w i) w = true) (hB : zokB mi (.ldc_w i) w u = true) (hq : zx r (zrun r n) (zrun r n) mi pc len (.ldc_w i) w lv st h = some (v, g)) : zGo l G r mi v g pc lv st h := by
  obtain rfl := zA3 hA
  unfold zx at hq
  dsimp only at hq
  exact (ih _ _ _ _ _ _ _ hq).row fun hF _ _ _ _ k => lv_ldcw hF.1 hF.2.1 hF.2.2.2.1 (hF.2.2.2.2.1 _ (zgt_of (zmem_in hB) rfl)) hd k
theorem zs_ldc2_w {i : Nat} {u : List Nat} (ih : zSnd l G r n) (hd : decode (zB mi) pc = .ok ((.ldc2_w i), len)) (hA : zokA mi pc len (.ldc2_w i) w = true) (hB : zokB mi (.ldc2_w i) w u = true) (hq : zx r (zrun r n) (zrun r n) mi pc len (.ldc2_w i) w lv st h = some (v, g)) : zGo l G r mi v g pc lv st h := by
  obtain rfl := zA3 hA
  unfold zx at hq
  dsimp only at hq
  exact (ih _ _ _ _ _ _ _ hq).row fun hF _ _ _ _ k => lv_ldc2 hF.1 hF.2.1 hF.2.2.2.1 (hF.2.2.2.2.1 _ (zgt_of (zmem_in hB) rfl)) hd k
theorem zs_null (ih : zSnd l G r n) (hd : decode (zB mi) pc = .ok (.aconst_null, len)) (hA : zokA mi pc len .aconst_null w = true) (hq : zx r (zrun r n) (zrun r n) mi pc len .aconst_null w lv st h = some (v, g)) : zGo l G r mi v g pc lv st h := by
  obtain rfl := zA1 hA
  unfold zx at hq
  dsimp only at hq
  exact (ih _ _ _ _ _ _ _ hq).row fun hF _ _ _ _ k => lv_null hF.1 hF.2.1 hd k
theorem zs_iload {i : Nat} (ih : zSnd l G r n) (hd : decode (zB mi) pc = .ok ((.iload i), len)) (hA : zokA mi pc len (.iload i) w = true) (hq : zx r (zrun r n) (zrun r n) mi pc len (.iload i) w lv st h = some (v, g)) : zGo l G r mi v g pc lv st h := by
  obtain rfl := zA2 hA
  unfold zx at hq
  dsimp only at hq
  obtain ⟨x, e, hq⟩ := zli_inv hq
  exact (ih _ _ _ _ _ _ _ hq).row fun hF hL _ _ _ k => lv_iload hF.1 hF.2.1 hd (hL.2.2.2 _ _ e) k
theorem zs_iload_n {i : Fin 4} (ih : zSnd l G r n) (hd : decode (zB mi) pc = .ok ((.iload_n i), len)) (hA : zokA mi pc len (.iload_n i) w = true) (hq : zx r (zrun r n) (zrun r n) mi pc len (.iload_n i) w lv st h = some (v, g)) : zGo l G r mi v g pc lv st h := by
  obtain rfl := zA1 hA
  unfold zx at hq
  dsimp only at hq
  obtain ⟨x, e, hq⟩ := zli_inv hq
  exact (ih _ _ _ _ _ _ _ hq).row fun hF hL _ _ _ k => lv_iload_n hF.1 hF.2.1 hd rfl (hL.2.2.2 _ _ e) k
theorem zs_lload {i : Nat} (ih : zSnd l G r n) (hd : decode (zB mi) pc = .ok ((.lload i), len)) (hA : zokA mi pc len (.lload i) w = true) (hq : zx r (zrun r n) (zrun r n) mi pc len (.lload i) w lv st h = some (v, g)) : zGo l G r mi v g pc lv st h := by
  obtain rfl := zA2 hA
  unfold zx at hq
  dsimp only at hq
  obtain ⟨x, e, hq⟩ := zll_inv hq
  exact (ih _ _ _ _ _ _ _ hq).row fun hF hL _ _ _ k => lv_lload hF.1 hF.2.1 hd (hL.2.2.2 _ _ e) k
theorem zs_lload_n {i : Fin 4} (ih : zSnd l G r n) (hd : decode (zB mi) pc = .ok ((.lload_n i), len)) (hA : zokA mi pc len (.lload_n i) w = true) (hq : zx r (zrun r n) (zrun r n) mi pc len (.lload_n i) w lv st h = some (v, g)) : zGo l G r mi v g pc lv st h := by
  obtain rfl := zA1 hA
  unfold zx at hq
  dsimp only at hq
  obtain ⟨x, e, hq⟩ := zll_inv hq
  exact (ih _ _ _ _ _ _ _ hq).row fun hF hL _ _ _ k => lv_lload_n hF.1 hF.2.1 hd rfl (hL.2.2.2 _ _ e) k
theorem zs_aload {i : Nat} (ih : zSnd l G r n) (hd : decode (zB mi) pc = .ok ((.aload i), len)) (hA : zokA mi pc len (.aload i) w = true) (hq : zx r (zrun r n) (zrun r n) mi pc len (.aload i) w lv st h = some (v, g)) : zGo l G r mi v g pc lv st h := by
  obtain rfl := zA2 hA
  unfold zx at hq
  dsimp only at hq
  obtain ⟨x, e, hq⟩ := zlq_inv hq
  cases x with
  | none => exact (ih _ _ _ _ _ _ _ hq).row fun hF hL _ _ _ k => lv_aloadN hF.1 hF.2.1 hd (hL.2.2.2 _ _ e) k
  | some x => exact (ih _ _ _ _ _ _ _ hq).row fun hF hL _ _ _ k => lv_aload hF.1 hF.2.1 hd (hL.2.2.2 _ _ e) k
theorem zs_aload_n {i : Fin 4} (ih : zSnd l G r n) (hd : decode (zB mi) pc = .ok ((.aload_n i), len)) (hA : zokA mi pc len (.aload_n i) w = true) (hq : zx r (zrun r n) (zrun r n) mi pc len (.aload_n i) w lv st h = some (v, g)) : zGo l G r mi v g pc lv st h := by
  obtain rfl := zA1 hA
  unfold zx at hq
  dsimp only at hq
  obtain ⟨x, e, hq⟩ := zlq_inv hq
  cases x with
  | none => exact (ih _ _ _ _ _ _ _ hq).row fun hF hL _ _ _ k => lv_aload_nN hF.1 hF.2.1 hd rfl (hL.2.2.2 _ _ e) k
  | some x => exact (ih _ _ _ _ _ _ _ hq).row fun hF hL _ _ _ k => lv_aload_n hF.1 hF.2.1 hd rfl (hL.2.2.2 _ _ e) k
theorem zs_istore {i : Nat} (ih : zSnd l G r n) (hd : decode (zB mi) pc = .ok ((.istore i), len)) (hA : zokA mi pc len (.istore i) w = true) (hq : zx r (zrun r n) (zrun r n) mi pc len (.istore i) w lv st h = some (v, g)) : zGo l G r mi v g pc lv st h := by
  obtain rfl := zA2 hA
  unfold zx at hq
  dsimp only at hq
  obtain ⟨x, t, rfl, hq2⟩ := zp1i_inv hq
  replace hq := hq2
  obtain ⟨hi, hq⟩ := zs1_inv hq
  exact zGo.store (fun hx hb a b c k => lv_istore hx hb hd a b c k) hi (ih _ _ _ _ _ _ _ hq)
theorem zs_istore_n {i : Fin 4} (ih : zSnd l G r n) (hd : decode (zB mi) pc = .ok ((.istore_n i), len)) (hA : zokA mi pc len (.istore_n i) w = true) (hq : zx r (zrun r n) (zrun r n) mi pc len (.istore_n i) w lv st h = some (v, g)) : zGo l G r mi v g pc lv st h := by
  obtain rfl := zA1 hA
  unfold zx at hq
  dsimp only at hq
  obtain ⟨x, t, rfl, hq2⟩ := zp1i_inv hq
  replace hq := hq2
  obtain ⟨hi, hq⟩ := zs1_inv hq
  exact zGo.store (fun hx hb a b c k => lv_istore_n hx hb hd rfl a b c k) hi (ih _ _ _ _ _ _ _ hq)
theorem zs_lstore {i : Nat} (ih : zSnd l G r n) (hd : decode (zB mi) pc = .ok ((.lstore i), len)) (hA : zokA mi pc len (.lstore i) w = true) (hq : zx r (zrun r n) (zrun r n) mi pc len (.lstore i) w lv st h = some (v, g)) : zGo l G r mi v g pc lv st h := by
  obtain rfl := zA2 hA
  unfold zx at hq
  dsimp only at hq
  obtain ⟨x, t, rfl, hq2⟩ := zp1l_inv hq
  replace hq := hq2
  obtain ⟨hi, hq⟩ := zs2_inv hq
  exact zGo.store2 (fun hx hb a b c k => lv_lstore hx hb hd a b c k) hi (ih _ _ _ _ _ _ _ hq)
theorem zs_lstore_n {i : Fin 4} (ih : zSnd l G r n) (hd : decode (zB mi) pc = .ok ((.lstore_n i), len)) (hA : zokA mi pc len (.lstore_n i) w = true) (hq : zx r (zrun r n) (zrun r n) mi pc len (.lstore_n i) w lv st h = some (v, g)) : zGo l G r mi v g pc lv st h := by
  obtain rfl := zA1 hA
  unfold zx at hq
  dsimp only at hq
  obtain ⟨x, t, rfl, hq2⟩ := zp1l_inv hq
  replace hq := hq2
  obtain ⟨hi, hq⟩ := zs2_inv hq
  exact zGo.store2 (fun hx hb a b c k => lv_lstore_n hx hb hd rfl a b c k) hi (ih _ _ _ _ _ _ _ hq)
theorem zs_astore {i : Nat} (ih : zSnd l G r n) (hd : decode (zB mi) pc = .ok ((.astore i), len)) (hA : zokA mi pc len (.astore i) w = true) (hq : zx r (zrun r n) (zrun r n) mi pc len (.astore i) w lv st h = some (v, g)) : zGo l G r mi v g pc lv st h := by
  obtain rfl := zA2 hA
  unfold zx at hq
  dsimp only at hq
  obtain ⟨x, t, rfl, hq2⟩ := zp1q_inv hq
  replace hq := hq2
  obtain ⟨hi, hq⟩ := zs1_inv hq
  cases x with
  | none => exact zGo.store (fun hx hb a b c k => lv_astoreN hx hb hd a b c k) hi (ih _ _ _ _ _ _ _ hq)
  | some x => exact zGo.store (fun hx hb a b c k => lv_astore hx hb hd a b c k) hi (ih _ _ _ _ _ _ _ hq)
theorem zs_astore_n {i : Fin 4} (ih : zSnd l G r n) (hd : decode (zB mi) pc = .ok ((.astore_n i), len)) (hA : zokA mi pc len (.astore_n i) w = true) (hq : zx r (zrun r n) (zrun r n) mi pc len (.astore_n i) w lv st h = some (v, g)) : zGo l G r mi v g pc lv st h := by
  obtain rfl := zA1 hA
  unfold zx at hq
  dsimp only at hq
  obtain ⟨x, t, rfl, hq2⟩ := zp1q_inv hq
  replace hq := hq2
  obtain ⟨hi, hq⟩ := zs1_inv hq
  cases x with
  | none => exact zGo.store (fun hx hb a b c k => lv_astore_nN hx hb hd rfl a b c k) hi (ih _ _ _ _ _ _ _ hq)
  | some x => exact zGo.store (fun hx hb a b c k => lv_astore_n hx hb hd rfl a b c k) hi (ih _ _ _ _ _ _ _ hq)
theorem zs_iinc {i : Nat} {c : Int} (ih : zSnd l G r n) (hd : decode (zB mi) pc = .ok ((.iinc i c), len)) (hA : zokA mi pc len (.iinc i c) w = true) (hq : zx r (zrun r n) (zrun r n) mi pc len (.iinc i c) w lv st h = some (v, g)) : zGo l G r mi v g pc lv st h := by
  obtain rfl := zA3 hA
  unfold zx at hq
  dsimp only at hq
  obtain ⟨x, e, hq⟩ := zli_inv hq
  obtain ⟨hi, hq⟩ := zs1_inv hq
  obtain ⟨j, hj⟩ := List.getElem?_of_mem (zal_mem.mpr e)
  exact zGo.rowL (fun hF hL kk => lv_iinc hF.1 hF.2.1 hd hL.has hj rfl (by rw [← hL.2.1]; exact hi) rfl fun ls2 hs => kk ls2 (hL.of1 hi hs)) (ih _ _ _ _ _ _ _ hq)
theorem zs_if_eq {off : Int} (ih : zSnd l G r n) (hd : decode (zB mi) pc = .ok ((.ifCond .eq off), len)) (hA : zokA mi pc len (.ifCond .eq off) w = true) (hq : zx r (zrun r n) (zrun r n) mi pc len (.ifCond .eq off) w lv st h = some (v, g)) : zGo l G r mi v g pc lv st h := by
  obtain rfl := zA3 hA
  unfold zx at hq
  dsimp only at hq
  obtain ⟨x, t, rfl, hq2⟩ := zp1i_inv hq
  replace hq := hq2
  by_cases c : x = 0
  · rw [if_pos c] at hq
    exact (ih _ _ _ _ _ _ _ hq).row fun hF _ _ _ _ k => lv_if_eq hF.1 hF.2.1 hd (zAdc hA) (fun _ => k) (fun c' => absurd c c')
  · rw [if_neg c] at hq
    exact (ih _ _ _ _ _ _ _ hq).row fun hF _ _ _ _ k => lv_if_eq hF.1 hF.2.1 hd (zAdc hA) (fun c' => absurd c' c) (fun _ => k)
theorem zs_if_ne {off : Int} (ih : zSnd l G r n) (hd : decode (zB mi) pc = .ok ((.ifCond .ne off), len)) (hA : zokA mi pc len (.ifCond .ne off) w = true) (hq : zx r (zrun r n) (zrun r n) mi pc len (.ifCond .ne off) w lv st h = some (v, g)) : zGo l G r mi v g pc lv st h := by
  obtain rfl := zA3 hA
  unfold zx at hq
  dsimp only at hq
  obtain ⟨x, t, rfl, hq2⟩ := zp1i_inv hq
  replace hq := hq2
  by_cases c : x = 0
  · rw [if_pos c] at hq
    exact (ih _ _ _ _ _ _ _ hq).row fun hF _ _ _ _ k => lv_if_ne hF.1 hF.2.1 hd (zAdc hA) (fun c' => absurd c' (fun q => q c)) (fun _ => k)
  · rw [if_neg c] at hq
    exact (ih _ _ _ _ _ _ _ hq).row fun hF _ _ _ _ k => lv_if_ne hF.1 hF.2.1 hd (zAdc hA) (fun _ => k) (fun c' => absurd c' c)
theorem zs_if_lt {off : Int} (ih : zSnd l G r n) (hd : decode (zB mi) pc = .ok ((.ifCond .lt off), len)) (hA : zokA mi pc len (.ifCond .lt off) w = true) (hq : zx r (zrun r n) (zrun r n) mi pc len (.ifCond .lt off) w lv st h = some (v, g)) : zGo l G r mi v g pc lv st h := by
  obtain rfl := zA3 hA
  unfold zx at hq
  dsimp only at hq
  obtain ⟨x, t, rfl, hq2⟩ := zp1i_inv hq
  replace hq := hq2
  by_cases c : x < 0
  · rw [if_pos c] at hq
    exact (ih _ _ _ _ _ _ _ hq).row fun hF _ _ _ _ k => lv_if_lt hF.1 hF.2.1 hd (zAdc hA) (fun _ => k) (fun c' => absurd c c')
  · rw [if_neg c] at hq
    exact (ih _ _ _ _ _ _ _ hq).row fun hF _ _ _ _ k => lv_if_lt hF.1 hF.2.1 hd (zAdc hA) (fun c' => absurd c' c) (fun _ => k)
theorem zs_if_ge {off : Int} (ih : zSnd l G r n) (hd : decode (zB mi) pc = .ok ((.ifCond .ge off), len)) (hA : zokA mi pc len (.ifCond .ge off) w = true) (hq : zx r (zrun r n) (zrun r n) mi pc len (.ifCond .ge off) w lv st h = some (v, g)) : zGo l G r mi v g pc lv st h := by
  obtain rfl := zA3 hA
  unfold zx at hq
  dsimp only at hq
  obtain ⟨x, t, rfl, hq2⟩ := zp1i_inv hq
  replace hq := hq2
  by_cases c : x < 0
  · rw [if_pos c] at hq
    exact (ih _ _ _ _ _ _ _ hq).row fun hF _ _ _ _ k => lv_if_ge hF.1 hF.2.1 hd (zAdc hA) (fun c' => absurd c' (Int32.not_le.mpr c)) (fun _ => k)
  · rw [if_neg c] at hq
    exact (ih _ _ _ _ _ _ _ hq).row fun hF _ _ _ _ k => lv_if_ge hF.1 hF.2.1 hd (zAdc hA) (fun _ => k) (fun c' => absurd (Int32.not_lt.mp c) c')
theorem zs_if_gt {off : Int} (ih : zSnd l G r n) (hd : decode (zB mi) pc = .ok ((.ifCond .gt off), len)) (hA : zokA mi pc len (.ifCond .gt off) w = true) (hq : zx r (zrun r n) (zrun r n) mi pc len (.ifCond .gt off) w lv st h = some (v, g)) : zGo l G r mi v g pc lv st h := by
  obtain rfl := zA3 hA
  unfold zx at hq
  dsimp only at hq
  obtain ⟨x, t, rfl, hq2⟩ := zp1i_inv hq
  replace hq := hq2
  by_cases c : 0 < x
  · rw [if_pos c] at hq
    exact (ih _ _ _ _ _ _ _ hq).row fun hF _ _ _ _ k => lv_if_gt hF.1 hF.2.1 hd (zAdc hA) (fun _ => k) (fun c' => absurd c c')
  · rw [if_neg c] at hq
    exact (ih _ _ _ _ _ _ _ hq).row fun hF _ _ _ _ k => lv_if_gt hF.1 hF.2.1 hd (zAdc hA) (fun c' => absurd c' c) (fun _ => k)
theorem zs_if_le {off : Int} (ih : zSnd l G r n) (hd : decode (zB mi) pc = .ok ((.ifCond .le off), len)) (hA : zokA mi pc len (.ifCond .le off) w = true) (hq : zx r (zrun r n) (zrun r n) mi pc len (.ifCond .le off) w lv st h = some (v, g)) : zGo l G r mi v g pc lv st h := by
  obtain rfl := zA3 hA
  unfold zx at hq
  dsimp only at hq
  obtain ⟨x, t, rfl, hq2⟩ := zp1i_inv hq
  replace hq := hq2
  by_cases c : 0 < x
  · rw [if_pos c] at hq
    exact (ih _ _ _ _ _ _ _ hq).row fun hF _ _ _ _ k => lv_if_le hF.1 hF.2.1 hd (zAdc hA) (fun c' => absurd c' (Int32.not_le.mpr c)) (fun _ => k)
  · rw [if_neg c] at hq
    exact (ih _ _ _ _ _ _ _ hq).row fun hF _ _ _ _ k => lv_if_le hF.1 hF.2.1 hd (zAdc hA) (fun _ => k) (fun c' => absurd (Int32.not_lt.mp c) c')
theorem zs_ic_eq {off : Int} (ih : zSnd l G r n) (hd : decode (zB mi) pc = .ok ((.if_icmp .eq off), len)) (hA : zokA mi pc len (.if_icmp .eq off) w = true) (hq : zx r (zrun r n) (zrun r n) mi pc len (.if_icmp .eq off) w lv st h = some (v, g)) : zGo l G r mi v g pc lv st h := by
  obtain rfl := zA3 hA
  unfold zx at hq
  dsimp only at hq
  obtain ⟨x, y, t, rfl, hq2⟩ := zp2i_inv hq
  replace hq := hq2
  by_cases c : x = y
  · rw [if_pos c] at hq
    exact (ih _ _ _ _ _ _ _ hq).row fun hF _ _ _ _ k => lv_icmp_eq hF.1 hF.2.1 hd (zAdc hA) (fun _ => k) (fun c' => absurd c c')
  · rw [if_neg c] at hq
    exact (ih _ _ _ _ _ _ _ hq).row fun hF _ _ _ _ k => lv_icmp_eq hF.1 hF.2.1 hd (zAdc hA) (fun c' => absurd c' c) (fun _ => k)
theorem zs_ic_ne {off : Int} (ih : zSnd l G r n) (hd : decode (zB mi) pc = .ok ((.if_icmp .ne off), len)) (hA : zokA mi pc len (.if_icmp .ne off) w = true) (hq : zx r (zrun r n) (zrun r n) mi pc len (.if_icmp .ne off) w lv st h = some (v, g)) : zGo l G r mi v g pc lv st h := by
  obtain rfl := zA3 hA
  unfold zx at hq
  dsimp only at hq
  obtain ⟨x, y, t, rfl, hq2⟩ := zp2i_inv hq
  replace hq := hq2
  by_cases c : x = y
  · rw [if_pos c] at hq
    exact (ih _ _ _ _ _ _ _ hq).row fun hF _ _ _ _ k => lv_icmp_ne hF.1 hF.2.1 hd (zAdc hA) (fun c' => absurd c' (fun q => q c)) (fun _ => k)
  · rw [if_neg c] at hq
    exact (ih _ _ _ _ _ _ _ hq).row fun hF _ _ _ _ k => lv_icmp_ne hF.1 hF.2.1 hd (zAdc hA) (fun _ => k) (fun c' => absurd c' c)
theorem zs_ic_lt {off : Int} (ih : zSnd l G r n) (hd : decode (zB mi) pc = .ok ((.if_icmp .lt off), len)) (hA : zokA mi pc len (.if_icmp .lt off) w = true) (hq : zx r (zrun r n) (zrun r n) mi pc len (.if_icmp .lt off) w lv st h = some (v, g)) : zGo l G r mi v g pc lv st h := by
  obtain rfl := zA3 hA
  unfold zx at hq
  dsimp only at hq
  obtain ⟨x, y, t, rfl, hq2⟩ := zp2i_inv hq
  replace hq := hq2
  by_cases c : x < y
  · rw [if_pos c] at hq
    exact (ih _ _ _ _ _ _ _ hq).row fun hF _ _ _ _ k => lv_icmp_lt hF.1 hF.2.1 hd (zAdc hA) (fun _ => k) (fun c' => absurd c c')
  · rw [if_neg c] at hq
    exact (ih _ _ _ _ _ _ _ hq).row fun hF _ _ _ _ k => lv_icmp_lt hF.1 hF.2.1 hd (zAdc hA) (fun c' => absurd c' c) (fun _ => k)
theorem zs_ic_ge {off : Int} (ih : zSnd l G r n) (hd : decode (zB mi) pc = .ok ((.if_icmp .ge off), len)) (hA : zokA mi pc len (.if_icmp .ge off) w = true) (hq : zx r (zrun r n) (zrun r n) mi pc len (.if_icmp .ge off) w lv st h = some (v, g)) : zGo l G r mi v g pc lv st h := by
  obtain rfl := zA3 hA
  unfold zx at hq
  dsimp only at hq
  obtain ⟨x, y, t, rfl, hq2⟩ := zp2i_inv hq
  replace hq := hq2
  by_cases c : x < y
  · rw [if_pos c] at hq
    exact (ih _ _ _ _ _ _ _ hq).row fun hF _ _ _ _ k => lv_icmp_ge hF.1 hF.2.1 hd (zAdc hA) (fun c' => absurd c' (Int32.not_le.mpr c)) (fun _ => k)
  · rw [if_neg c] at hq
    exact (ih _ _ _ _ _ _ _ hq).row fun hF _ _ _ _ k => lv_icmp_ge hF.1 hF.2.1 hd (zAdc hA) (fun _ => k) (fun c' => absurd (Int32.not_lt.mp c) c')
theorem zs_ic_gt {off : Int} (ih : zSnd l G r n) (hd : decode (zB mi) pc = .ok ((.if_icmp .gt off), len)) (hA : zokA mi pc len (.if_icmp .gt off) w = true) (hq : zx r (zrun r n) (zrun r n) mi pc len (.if_icmp .gt off) w lv st h = some (v, g)) : zGo l G r mi v g pc lv st h := by
  obtain rfl := zA3 hA
  unfold zx at hq
  dsimp only at hq
  obtain ⟨x, y, t, rfl, hq2⟩ := zp2i_inv hq
  replace hq := hq2
  by_cases c : y < x
  · rw [if_pos c] at hq
    exact (ih _ _ _ _ _ _ _ hq).row fun hF _ _ _ _ k => lv_icmp_gt hF.1 hF.2.1 hd (zAdc hA) (fun _ => k) (fun c' => absurd c c')
  · rw [if_neg c] at hq
    exact (ih _ _ _ _ _ _ _ hq).row fun hF _ _ _ _ k => lv_icmp_gt hF.1 hF.2.1 hd (zAdc hA) (fun c' => absurd c' c) (fun _ => k)
theorem zs_ic_le {off : Int} (ih : zSnd l G r n) (hd : decode (zB mi) pc = .ok ((.if_icmp .le off), len)) (hA : zokA mi pc len (.if_icmp .le off) w = true) (hq : zx r (zrun r n) (zrun r n) mi pc len (.if_icmp .le off) w lv st h = some (v, g)) : zGo l G r mi v g pc lv st h := by
  obtain rfl := zA3 hA
  unfold zx at hq
  dsimp only at hq
  obtain ⟨x, y, t, rfl, hq2⟩ := zp2i_inv hq
  replace hq := hq2
  by_cases c : y < x
  · rw [if_pos c] at hq
    exact (ih _ _ _ _ _ _ _ hq).row fun hF _ _ _ _ k => lv_icmp_le hF.1 hF.2.1 hd (zAdc hA) (fun c' => absurd c' (Int32.not_le.mpr c)) (fun _ => k)
  · rw [if_neg c] at hq
    exact (ih _ _ _ _ _ _ _ hq).row fun hF _ _ _ _ k => lv_icmp_le hF.1 hF.2.1 hd (zAdc hA) (fun _ => k) (fun c' => absurd (Int32.not_lt.mp c) c')
theorem zs_goto {off : Int} (ih : zSnd l G r n) (hd : decode (zB mi) pc = .ok ((.goto off), len)) (hA : zokA mi pc len (.goto off) w = true) (hq : zx r (zrun r n) (zrun r n) mi pc len (.goto off) w lv st h = some (v, g)) : zGo l G r mi v g pc lv st h := by
  obtain rfl := zA3 hA
  unfold zx at hq
  dsimp only at hq
  exact zGo.rowL (fun hF hL kk => lv_goto hF.1 hF.2.1 hd (zAdc hA) (kk _ hL.forget)) (ih _ _ _ _ _ _ _ hq)
theorem zs_ifnull {off : Int} (ih : zSnd l G r n) (hd : decode (zB mi) pc = .ok ((.ifnull off), len)) (hA : zokA mi pc len (.ifnull off) w = true) (hq : zx r (zrun r n) (zrun r n) mi pc len (.ifnull off) w lv st h = some (v, g)) : zGo l G r mi v g pc lv st h := by
  obtain rfl := zA3 hA
  unfold zx at hq
  dsimp only at hq
  obtain ⟨x, t, rfl, hq2⟩ := zp1q_inv hq
  replace hq := hq2
  cases x with
  | none => exact (ih _ _ _ _ _ _ _ hq).row fun hF _ _ _ _ k => lv_ifnullN hF.1 hF.2.1 hd (zAdc hA) k
  | some x => exact (ih _ _ _ _ _ _ _ hq).row fun hF _ _ _ _ k => lv_ifnull hF.1 hF.2.1 hd k
theorem zs_ifnonnull {off : Int} (ih : zSnd l G r n) (hd : decode (zB mi) pc = .ok ((.ifnonnull off), len)) (hA : zokA mi pc len (.ifnonnull off) w = true) (hq : zx r (zrun r n) (zrun r n) mi pc len (.ifnonnull off) w lv st h = some (v, g)) : zGo l G r mi v g pc lv st h := by
  obtain rfl := zA3 hA
  unfold zx at hq
  dsimp only at hq
  obtain ⟨x, t, rfl, hq2⟩ := zp1q_inv hq
  replace hq := hq2
  cases x with
  | none => exact (ih _ _ _ _ _ _ _ hq).row fun hF _ _ _ _ k => lv_ifnonnullN hF.1 hF.2.1 hd k
  | some x => exact (ih _ _ _ _ _ _ _ hq).row fun hF _ _ _ _ k => lv_ifnonnull hF.1 hF.2.1 hd (zAdc hA) k
theorem zofI {z : Int} (h1 : -2000 ≤ z) (h2 : z ≤ 2000) : (Int32.ofInt z).toInt = z := Int32.toInt_ofInt_of_le (by simp [Int32.minValue] <;> omega) (by omega)
theorem zts_inv {X : Type} {k : Nat → Option X} {x : Int32} {d : Int} {q : X} : ∀ {os : List Int} {lo : Int}, -1000 ≤ lo → lo + os.length ≤ 2000 → zts pc k x lo os d = some q →
    (∃ (j : Nat) (o : Int), os[j]? = some o ∧ x.toInt = lo + j ∧ k (zt pc o) = some q) ∨ (x.toInt < lo ∨ lo + os.length ≤ x.toInt) ∧ k (zt pc d) = some q
  | [], lo, _, _, h => Or.inr ⟨by simp; omega, h⟩
  | o :: os, lo, h1, h2, h => by
    simp only [List.length_cons] at h2
    simp only [zts] at h
    split at h
    · rename_i c
      refine Or.inl ⟨0, o, rfl, ?_, h⟩
      rw [c, zofI (by omega) (by omega)]; simp
    · rename_i c
      have hne : x.toInt ≠ lo := fun e => c (by rw [← e, Int32.ofInt_toInt])
      rcases zts_inv (by omega) (by omega) h with ⟨j, o', e1, e2, e3⟩ | ⟨e1, e2⟩
      · exact Or.inl ⟨j + 1, o', by simpa using e1, by rw [e2]; omega, e3⟩
      · refine Or.inr ⟨?_, e2⟩
        simp only [List.length_cons]
        omega
theorem zls_inv {X : Type} {k : Nat → Option X} {x : Int32} {d : Int} {q : X} : ∀ {os : List (Int × Int)}, (∀ z ∈ os, -1000 ≤ z.1 ∧ z.1 ≤ 1000) → zls pc k x os d = some q → k (zt pc (Op.lookupswitch.offset os d x.toInt)) = some q
  | [], _, h => h
  | (a, b) :: os, hr, h => by
    simp only [zls] at h
    rw [Op.lookupswitch.offset_cons]
    have h1 := hr (a, b) List.mem_cons_self
    dsimp only at h1
    split at h
    · rename_i c
      rw [if_pos (by rw [c, zofI (by omega) (by omega)])]
      exact h
    · rename_i c
      rw [if_neg (fun e => c (by rw [e, Int32.ofInt_toInt]))]
      exact zls_inv (fun z hz => hr z (List.mem_cons_of_mem _ hz)) h
theorem zt_eq {o : Int} (h : 0 ≤ (pc : Int) + o) : (pc : Int) + o = (zt pc o : Int) := by unfold zt; omega
theorem zs_tsw {d lo hi : Int} {os : Array Int} (ih : zSnd l G r n) (hd : decode (zB mi) pc = .ok ((.tableswitch d lo hi os), len)) (hA : zokA mi pc len (.tableswitch d lo hi os) w = true) (hq : zx r (zrun r n) (zrun r n) mi pc len (.tableswitch d lo hi os) w lv st h = some (v, g)) : zGo l G r mi v g pc lv st h := by
  unfold zx at hq
  dsimp only at hq
  obtain ⟨x, t, rfl, hq2⟩ := zp1i_inv hq
  replace hq := hq2
  have hA : (decide (0 ≤ (pc : Int) + d ∧ hi + 1 = lo + os.toList.length ∧ -1000 ≤ lo ∧ lo ≤ 1000 ∧ os.toList.length ≤ 1000) && os.toList.all fun x => decide (0 ≤ (pc : Int) + x)) = true := hA
  rw [Bool.and_eq_true] at hA
  obtain ⟨h1, h2⟩ := hA
  obtain ⟨h3, h4, h5, h6, h7⟩ := of_decide_eq_true h1
  rcases zts_inv (by omega) (by omega) hq with ⟨j, o, e1, e2, e3⟩ | ⟨e1, e2⟩
  · have hj := (List.getElem?_eq_some_iff.mp e1).1
    have ho := of_decide_eq_true (List.all_eq_true.mp h2 o (List.mem_of_getElem? e1))
    exact (ih _ _ _ _ _ _ _ e3).row fun hF _ _ _ _ k => lv_tableIn hF.1 hF.2.1 hd (by omega) (by omega) (by rw [← Array.getElem?_toList, ← e1]; congr 1; omega) (zt_eq ho) k
  · exact (ih _ _ _ _ _ _ _ e2).row fun hF _ _ _ _ k => lv_tableOut hF.1 hF.2.1 hd (by omega) (zt_eq h3) k
theorem zs_lsw {d : Int} {ps : Array (Int × Int)} (ih : zSnd l G r n) (hd : decode (zB mi) pc = .ok ((.lookupswitch d ps), len)) (hA : zokA mi pc len (.lookupswitch d ps) w = true) (hq : zx r (zrun r n) (zrun r n) mi pc len (.lookupswitch d ps) w lv st h = some (v, g)) : zGo l G r mi v g pc lv st h := by
  unfold zx at hq
  dsimp only at hq
  obtain ⟨x, t, rfl, hq2⟩ := zp1i_inv hq
  replace hq := hq2
  have hA : (decide (0 ≤ (pc : Int) + d) && ps.toList.all (fun x => decide (0 ≤ (pc : Int) + x.2 ∧ -1000 ≤ x.1 ∧ x.1 ≤ 1000)) && (ps.toList.zip (ps.toList.drop 1)).all (fun (a, next) => a.1 < next.1)) = true := hA
  rw [Bool.and_eq_true, Bool.and_eq_true] at hA
  obtain ⟨⟨h1, h2⟩, h3⟩ := hA
  have h1 := of_decide_eq_true h1
  have h2 : ∀ z ∈ ps.toList, 0 ≤ (pc : Int) + z.2 ∧ -1000 ≤ z.1 ∧ z.1 ≤ 1000 := fun z hz => of_decide_eq_true (List.all_eq_true.mp h2 z hz)
  have e := zls_inv (fun z hz => (h2 z hz).2) hq
  have ht : ∀ (os : List (Int × Int)), (∀ z ∈ os, 0 ≤ (pc : Int) + z.2) → 0 ≤ (pc : Int) + Op.lookupswitch.offset os d x.toInt := by
    intro os
    induction os with
    | nil => exact fun _ => h1
    | cons a l il =>
      intro hz
      rw [Op.lookupswitch.offset_cons]
      split
      · exact hz a List.mem_cons_self
      · exact il fun z hm => hz z (List.mem_cons_of_mem _ hm)
  exact (ih _ _ _ _ _ _ _ e).row fun hF _ _ _ _ k => lv_lookup hF.1 hF.2.1 hd h3 rfl (zt_eq (ht _ fun z hz => (h2 z hz).1)) k
end STEP
