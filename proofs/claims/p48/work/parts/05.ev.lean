/-! what a run comes to, without fuel; and runs up to chosen places -/
theorem zAd_st (r : zE) (mi pc : Nat) (lv : List (Option Value)) (st : List Value) (h : zH) : zAd (fun K => zst r K K mi pc lv st h) := by
  unfold zst
  cases zlk (zcd mi) pc with
  | none => exact zAd_c none
  | some q => exact zAd_x r mi pc q.1 q.2.1 q.2.2 lv st h
theorem zrun_succ (r : zE) : ∀ n, zle (zrun r n) (zrun r (n + 1))
  | 0 => fun _ _ _ _ _ _ h => by cases h
  | n + 1 => fun a b c d e q h => (zAd_st r a b c d e).1 _ _ (zrun_succ r n) q h
theorem zrun_le (r : zE) (i : Nat) : ∀ j, i ≤ j → zle (zrun r i) (zrun r j)
  | 0, h => by
    have : i = 0 := by omega
    subst this
    exact fun _ _ _ _ _ _ h => h
  | j + 1, h => by
    by_cases hij : i = j + 1
    · subst hij
      exact fun _ _ _ _ _ _ h => h
    · exact fun a b c d e q hq => zrun_succ r j _ _ _ _ _ _ (zrun_le r i j (by omega) _ _ _ _ _ _ hq)
noncomputable def zev (r : zE) : zK := fun mi pc lv st h => @dite _ (∃ q, ∃ n, zrun r n mi pc lv st h = some q) (Classical.propDecidable _) (fun hq => some (Classical.choose hq)) (fun _ => none)
theorem zev_iff {r : zE} {mi pc : Nat} {lv : List (Option Value)} {st : List Value} {h : zH} {q : zRes} : zev r mi pc lv st h = some q ↔ ∃ n, zrun r n mi pc lv st h = some q := by
  unfold zev
  constructor
  · intro e
    split at e
    · rename_i hq
      cases e
      exact Classical.choose_spec hq
    · cases e
  · rintro ⟨n, hn⟩
    have hq : ∃ q, ∃ n, zrun r n mi pc lv st h = some q := ⟨q, n, hn⟩
    rw [dif_pos hq]
    obtain ⟨m, hm⟩ := Classical.choose_spec hq
    have h1 := zrun_le r n (n + m) (by omega) _ _ _ _ _ _ hn
    have h2 := zrun_le r m (n + m) (by omega) _ _ _ _ _ _ hm
    exact h2.symm.trans h1
theorem zev_st (r : zE) (mi pc : Nat) (lv : List (Option Value)) (st : List Value) (h : zH) : zev r mi pc lv st h = zst r (zev r) (zev r) mi pc lv st h := by
  have key : ∀ q, zev r mi pc lv st h = some q ↔ zst r (zev r) (zev r) mi pc lv st h = some q := by
    intro q
    rw [zev_iff]
    constructor
    · rintro ⟨n, hn⟩
      cases n with
      | zero => cases hn
      | succ n => exact (zAd_st r mi pc lv st h).1 (zrun r n) (zev r) (fun _ _ _ _ _ _ e => zev_iff.mpr ⟨n, e⟩) q hn
    · intro hq
      obtain ⟨n, hn⟩ := (zAd_st r mi pc lv st h).2 (zrun r) (zrun_le r) (zev r) (fun _ _ _ _ _ _ e => zev_iff.mp e) q hq
      exact ⟨n + 1, hn⟩
  cases e1 : zev r mi pc lv st h with
  | some q => exact ((key q).mp e1).symm
  | none =>
    cases e2 : zst r (zev r) (zev r) mi pc lv st h with
    | none => rfl
    | some q => rw [(key q).mpr e2] at e1; cases e1
noncomputable def zevS (r : zE) (stop : List Nat) : Nat → zK
  | 0 => zev r
  | k + 1 => fun mi pc lv st h => match stop.elem pc with
    | true => zev r mi pc lv st h
    | false => zst r (zev r) (zevS r stop k) mi pc lv st h
theorem zevS_eq (r : zE) (stop : List Nat) : ∀ k, zevS r stop k = zev r
  | 0 => rfl
  | k + 1 => by
    funext mi pc lv st h
    show (match stop.elem pc with | true => _ | false => _) = _
    rw [zevS_eq r stop k]
    split
    · rfl
    · exact (zev_st r mi pc lv st h).symm
theorem zblk (r : zE) (stop : List Nat) (k mi pc : Nat) (lv : List (Option Value)) (st : List Value) (h : zH) : zev r mi pc lv st h = zst r (zev r) (zevS r stop k) mi pc lv st h := by
  rw [zevS_eq]
  exact zev_st r mi pc lv st h
