/-! running the pure machine: with fuel, then without -/
def zst (r : zE) (Kc K : zK) : zK := fun mi pc lv st h => match zlk (zcd mi) pc with
  | none => none
  | some q => zx r Kc K mi pc q.1 q.2.1 q.2.2 lv st h
def zrun (r : zE) : Nat → zK
  | 0 => fun _ _ _ _ _ => none
  | n + 1 => zst r (zrun r n) (zrun r n)
def zle (K K' : zK) : Prop := ∀ a b c d e q, K a b c d e = some q → K' a b c d e = some q
def zAd (G : zK → Option zRes) : Prop := (∀ K K', zle K K' → ∀ q, G K = some q → G K' = some q) ∧ (∀ Kn : Nat → zK, (∀ i j, i ≤ j → zle (Kn i) (Kn j)) → ∀ E : zK, (∀ a b c d e q, E a b c d e = some q → ∃ n, Kn n a b c d e = some q) → ∀ q, G E = some q → ∃ n, G (Kn n) = some q)
section INV
variable {X : Type} {q : X}
theorem zp1i_inv {st : List Value} {k : Int32 → List Value → Option X} (h : zp1i st k = some q) : ∃ x t, st = .int x :: t ∧ k x t = some q := by
  unfold zp1i at h; split at h
  · exact ⟨_, _, rfl, h⟩
  · cases h
theorem zp2i_inv {st : List Value} {k : Int32 → Int32 → List Value → Option X} (h : zp2i st k = some q) : ∃ x y t, st = .int y :: .int x :: t ∧ k x y t = some q := by
  unfold zp2i at h; split at h
  · exact ⟨_, _, _, rfl, h⟩
  · cases h
theorem zp1l_inv {st : List Value} {k : Int64 → List Value → Option X} (h : zp1l st k = some q) : ∃ x t, st = .long x :: t ∧ k x t = some q := by
  unfold zp1l at h; split at h
  · exact ⟨_, _, rfl, h⟩
  · cases h
theorem zp2l_inv {st : List Value} {k : Int64 → Int64 → List Value → Option X} (h : zp2l st k = some q) : ∃ x y t, st = .long y :: .long x :: t ∧ k x y t = some q := by
  unfold zp2l at h; split at h
  · exact ⟨_, _, _, rfl, h⟩
  · cases h
theorem zp1r_inv {st : List Value} {k : Nat → List Value → Option X} (h : zp1r st k = some q) : ∃ x t, st = .ref x :: t ∧ k x t = some q := by
  unfold zp1r at h; split at h
  · exact ⟨_, _, rfl, h⟩
  · cases h
theorem zp1q_inv {st : List Value} {k : Option Nat → List Value → Option X} (h : zp1q st k = some q) : ∃ x t, st = va_rf x :: t ∧ k x t = some q := by
  unfold zp1q at h; split at h
  · exact ⟨some _, _, rfl, h⟩
  · exact ⟨none, _, rfl, h⟩
  · cases h
theorem zpia_inv {st : List Value} {k : Nat → Int32 → List Value → Option X} (h : zpia st k = some q) : ∃ a x t, st = .int x :: .ref a :: t ∧ k a x t = some q := by
  unfold zpia at h; split at h
  · exact ⟨_, _, _, rfl, h⟩
  · cases h
theorem zpla_inv {st : List Value} {k : Nat → Int64 → List Value → Option X} (h : zpla st k = some q) : ∃ a x t, st = .long x :: .ref a :: t ∧ k a x t = some q := by
  unfold zpla at h; split at h
  · exact ⟨_, _, _, rfl, h⟩
  · cases h
theorem zpra_inv {st : List Value} {k : Nat → Nat → List Value → Option X} (h : zpra st k = some q) : ∃ a x t, st = .ref x :: .ref a :: t ∧ k a x t = some q := by
  unfold zpra at h; split at h
  · exact ⟨_, _, _, rfl, h⟩
  · cases h
theorem zpiia_inv {st : List Value} {k : Nat → Int32 → Int32 → List Value → Option X} (h : zpiia st k = some q) : ∃ a i x t, st = .int x :: .int i :: .ref a :: t ∧ k a i x t = some q := by
  unfold zpiia at h; split at h
  · exact ⟨_, _, _, _, rfl, h⟩
  · cases h
theorem zpria_inv {st : List Value} {k : Nat → Int32 → Nat → List Value → Option X} (h : zpria st k = some q) : ∃ a i x t, st = .ref x :: .int i :: .ref a :: t ∧ k a i x t = some q := by
  unfold zpria at h; split at h
  · exact ⟨_, _, _, _, rfl, h⟩
  · cases h
theorem zpcp_inv {st : List Value} {k : Nat → Int32 → Nat → Int32 → Int32 → List Value → Option X} (h : zpcp st k = some q) : ∃ a0 sp a1 dp n t, st = .int n :: .int dp :: .ref a1 :: .int sp :: .ref a0 :: t ∧ k a0 sp a1 dp n t = some q := by
  unfold zpcp at h; split at h
  · exact ⟨_, _, _, _, _, _, rfl, h⟩
  · cases h
theorem zp1v_inv {st : List Value} {k : Value → List Value → Option X} (h : zp1v st k = some q) : ∃ v t, st = v :: t ∧ v.category = 1 ∧ k v t = some q := by
  unfold zp1v at h; split at h
  · split at h
    · exact ⟨_, _, rfl, by assumption, h⟩
    · cases h
  · cases h
theorem zp2v_inv {st : List Value} {k : Value → Value → List Value → Option X} (h : zp2v st k = some q) : ∃ v u t, st = v :: u :: t ∧ (v.category = 1 ∧ u.category = 1) ∧ k v u t = some q := by
  unfold zp2v at h; split at h
  · split at h
    · exact ⟨_, _, _, rfl, by assumption, h⟩
    · cases h
  · cases h
theorem zpop_inv {st : List Value} {n : Nat} {k : List Value → List Value → Option X} (h : zpop st n k = some q) : ∃ as t, st = as.reverse ++ t ∧ as.length = n ∧ (t.map fun v => v.category).sum ≤ 8 ∧ (n ≤ st.length ∧ as = (st.take n).reverse ∧ t = st.drop n) ∧ k as t = some q := by
  unfold zpop at h; split at h
  · rename_i c
    refine ⟨_, _, ?_, ?_, c.2, ⟨c.1, rfl, rfl⟩, h⟩
    · simp
    · simp; omega
  · cases h
theorem zli_inv {lv : List (Option Value)} {i : Nat} {k : Int32 → Option X} (h : zli lv i k = some q) : ∃ x, lv[i]? = some (some (.int x)) ∧ k x = some q := by
  unfold zli at h; split at h
  · exact ⟨_, by assumption, h⟩
  · cases h
theorem zll_inv {lv : List (Option Value)} {i : Nat} {k : Int64 → Option X} (h : zll lv i k = some q) : ∃ x, lv[i]? = some (some (.long x)) ∧ k x = some q := by
  unfold zll at h; split at h
  · exact ⟨_, by assumption, h⟩
  · cases h
theorem zlq_inv {lv : List (Option Value)} {i : Nat} {k : Value → Option X} (h : zlq lv i k = some q) : ∃ x, lv[i]? = some (some (va_rf x)) ∧ k (va_rf x) = some q := by
  unfold zlq at h; split at h
  · exact ⟨some _, by assumption, h⟩
  · exact ⟨none, by assumption, h⟩
  · cases h
theorem zs1_inv {lv : List (Option Value)} {i : Nat} {v : Value} {k : List (Option Value) → Option X} (h : zs1 lv i v k = some q) : i < lv.length ∧ k ((zcl lv i).set i (some v)) = some q := by
  unfold zs1 at h; split at h
  · exact ⟨by assumption, h⟩
  · cases h
theorem zs2_inv {lv : List (Option Value)} {i : Nat} {v : Value} {k : List (Option Value) → Option X} (h : zs2 lv i v k = some q) : i + 1 < lv.length ∧ k (((zcl lv i).set i (some v)).set (i + 1) none) = some q := by
  unfold zs2 at h; split at h
  · exact ⟨by assumption, h⟩
  · cases h
end INV
theorem zca_inv {kind : Nat} {o : Option zRes} {k : List Value → zH → Option zRes} {q : zRes} (h : zca kind o k = some q) : ∃ (v : Option Value) (g : zH), o = some (v, g) ∧ (∀ k', zca kind (some (v, g)) k' = k' v.toList g) ∧ k v.toList g = some q := by
  match kind with
  | 0 =>
    simp only [zca, zcV] at h
    split at h
    · exact ⟨none, _, rfl, fun _ => rfl, h⟩
    · cases h
  | 1 =>
    simp only [zca, zcI] at h
    split at h
    · exact ⟨some _, _, rfl, fun _ => rfl, h⟩
    · cases h
  | 2 =>
    simp only [zca, zcL] at h
    split at h
    · exact ⟨some _, _, rfl, fun _ => rfl, h⟩
    · cases h
  | _ + 3 =>
    simp only [zca, zcQ] at h
    split at h
    · exact ⟨some _, _, rfl, fun _ => rfl, h⟩
    · exact ⟨some _, _, rfl, fun _ => rfl, h⟩
    · cases h
section ADM
theorem zAd_c (c : Option zRes) : zAd (fun _ => c) := ⟨fun _ _ _ _ h => h, fun _ _ _ _ _ h => ⟨0, h⟩⟩
theorem zAd_K (a b c d e) : zAd (fun K => K a b c d e) := ⟨fun _ _ h _ hq => h _ _ _ _ _ _ hq, fun _ _ _ hE _ hq => hE _ _ _ _ _ _ hq⟩
theorem zAd_ite {c : Prop} [Decidable c] {G1 G2 : zK → Option zRes} (h1 : zAd G1) (h2 : zAd G2) : zAd (fun K => if c then G1 K else G2 K) := by
  by_cases hc : c
  · simpa only [if_pos hc] using h1
  · simpa only [if_neg hc] using h2
theorem zAd_bind {α : Type} {o : Option α} {G : α → zK → Option zRes} (h : ∀ v, zAd (G v)) : zAd (fun K => o.bind fun v => G v K) := by
  cases o with
  | none => exact zAd_c none
  | some v => exact h v
theorem zAd_ca {kind : Nat} {a b c d e} {G : List Value → zH → zK → Option zRes} (h : ∀ v g, zAd (G v g)) : zAd (fun K => zca kind (K a b c d e) fun v g => G v g K) := by
  refine ⟨fun K K' hK q hq => ?_, fun Kn hm E hE q hq => ?_⟩
  · obtain ⟨v, g, e1, e2, e3⟩ := zca_inv hq
    show zca kind (K' a b c d e) _ = _
    rw [hK _ _ _ _ _ _ e1, e2]
    exact (h _ _).1 K K' hK q e3
  · obtain ⟨v, g, e1, e2, e3⟩ := zca_inv hq
    obtain ⟨n1, h1⟩ := hE _ _ _ _ _ _ e1
    obtain ⟨n2, h2⟩ := (h _ _).2 Kn hm E hE q e3
    refine ⟨n1 + n2, ?_⟩
    show zca kind (Kn (n1 + n2) a b c d e) _ = _
    rw [hm n1 (n1 + n2) (by omega) _ _ _ _ _ _ h1, e2]
    exact (h _ _).1 _ _ (hm n2 (n1 + n2) (by omega)) q h2
variable {st : List Value} {lv : List (Option Value)} {i n pc : Nat} {v : Value}
theorem zAd_1i {G : Int32 → List Value → zK → Option zRes} (h : ∀ x t, zAd (G x t)) : zAd (fun K => zp1i st fun x t => G x t K) :=
  ⟨fun K K' hK q hq => by obtain ⟨_, _, rfl, hq⟩ := zp1i_inv hq; exact (h _ _).1 K K' hK q hq, fun Kn hm E hE q hq => by obtain ⟨_, _, rfl, hq⟩ := zp1i_inv hq; exact (h _ _).2 Kn hm E hE q hq⟩
theorem zAd_2i {G : Int32 → Int32 → List Value → zK → Option zRes} (h : ∀ x y t, zAd (G x y t)) : zAd (fun K => zp2i st fun x y t => G x y t K) :=
  ⟨fun K K' hK q hq => by obtain ⟨_, _, _, rfl, hq⟩ := zp2i_inv hq; exact (h _ _ _).1 K K' hK q hq, fun Kn hm E hE q hq => by obtain ⟨_, _, _, rfl, hq⟩ := zp2i_inv hq; exact (h _ _ _).2 Kn hm E hE q hq⟩
theorem zAd_1l {G : Int64 → List Value → zK → Option zRes} (h : ∀ x t, zAd (G x t)) : zAd (fun K => zp1l st fun x t => G x t K) :=
  ⟨fun K K' hK q hq => by obtain ⟨_, _, rfl, hq⟩ := zp1l_inv hq; exact (h _ _).1 K K' hK q hq, fun Kn hm E hE q hq => by obtain ⟨_, _, rfl, hq⟩ := zp1l_inv hq; exact (h _ _).2 Kn hm E hE q hq⟩
theorem zAd_2l {G : Int64 → Int64 → List Value → zK → Option zRes} (h : ∀ x y t, zAd (G x y t)) : zAd (fun K => zp2l st fun x y t => G x y t K) :=
  ⟨fun K K' hK q hq => by obtain ⟨_, _, _, rfl, hq⟩ := zp2l_inv hq; exact (h _ _ _).1 K K' hK q hq, fun Kn hm E hE q hq => by obtain ⟨_, _, _, rfl, hq⟩ := zp2l_inv hq; exact (h _ _ _).2 Kn hm E hE q hq⟩
theorem zAd_1r {G : Nat → List Value → zK → Option zRes} (h : ∀ x t, zAd (G x t)) : zAd (fun K => zp1r st fun x t => G x t K) :=
  ⟨fun K K' hK q hq => by obtain ⟨_, _, rfl, hq⟩ := zp1r_inv hq; exact (h _ _).1 K K' hK q hq, fun Kn hm E hE q hq => by obtain ⟨_, _, rfl, hq⟩ := zp1r_inv hq; exact (h _ _).2 Kn hm E hE q hq⟩
theorem zp1q_k {X : Type} {x : Option Nat} {t : List Value} {k : Option Nat → List Value → Option X} : zp1q (va_rf x :: t) k = k x t := by cases x <;> rfl
theorem zAd_1q {G : Option Nat → List Value → zK → Option zRes} (h : ∀ x t, zAd (G x t)) : zAd (fun K => zp1q st fun x t => G x t K) :=
  ⟨fun K K' hK q hq => by obtain ⟨_, _, rfl, hq2⟩ := zp1q_inv hq; simp only [zp1q_k]; exact (h _ _).1 K K' hK q hq2, fun Kn hm E hE q hq => by obtain ⟨_, _, rfl, hq2⟩ := zp1q_inv hq; simp only [zp1q_k]; exact (h _ _).2 Kn hm E hE q hq2⟩
theorem zAd_ia {G : Nat → Int32 → List Value → zK → Option zRes} (h : ∀ x y t, zAd (G x y t)) : zAd (fun K => zpia st fun x y t => G x y t K) :=
  ⟨fun K K' hK q hq => by obtain ⟨_, _, _, rfl, hq⟩ := zpia_inv hq; exact (h _ _ _).1 K K' hK q hq, fun Kn hm E hE q hq => by obtain ⟨_, _, _, rfl, hq⟩ := zpia_inv hq; exact (h _ _ _).2 Kn hm E hE q hq⟩
theorem zAd_la {G : Nat → Int64 → List Value → zK → Option zRes} (h : ∀ x y t, zAd (G x y t)) : zAd (fun K => zpla st fun x y t => G x y t K) :=
  ⟨fun K K' hK q hq => by obtain ⟨_, _, _, rfl, hq⟩ := zpla_inv hq; exact (h _ _ _).1 K K' hK q hq, fun Kn hm E hE q hq => by obtain ⟨_, _, _, rfl, hq⟩ := zpla_inv hq; exact (h _ _ _).2 Kn hm E hE q hq⟩
theorem zAd_ra {G : Nat → Nat → List Value → zK → Option zRes} (h : ∀ x y t, zAd (G x y t)) : zAd (fun K => zpra st fun x y t => G x y t K) :=
  ⟨fun K K' hK q hq => by obtain ⟨_, _, _, rfl, hq⟩ := zpra_inv hq; exact (h _ _ _).1 K K' hK q hq, fun Kn hm E hE q hq => by obtain ⟨_, _, _, rfl, hq⟩ := zpra_inv hq; exact (h _ _ _).2 Kn hm E hE q hq⟩
theorem zAd_iia {G : Nat → Int32 → Int32 → List Value → zK → Option zRes} (h : ∀ x y z t, zAd (G x y z t)) : zAd (fun K => zpiia st fun x y z t => G x y z t K) :=
  ⟨fun K K' hK q hq => by obtain ⟨_, _, _, _, rfl, hq⟩ := zpiia_inv hq; exact (h _ _ _ _).1 K K' hK q hq, fun Kn hm E hE q hq => by obtain ⟨_, _, _, _, rfl, hq⟩ := zpiia_inv hq; exact (h _ _ _ _).2 Kn hm E hE q hq⟩
theorem zAd_ria {G : Nat → Int32 → Nat → List Value → zK → Option zRes} (h : ∀ x y z t, zAd (G x y z t)) : zAd (fun K => zpria st fun x y z t => G x y z t K) :=
  ⟨fun K K' hK q hq => by obtain ⟨_, _, _, _, rfl, hq⟩ := zpria_inv hq; exact (h _ _ _ _).1 K K' hK q hq, fun Kn hm E hE q hq => by obtain ⟨_, _, _, _, rfl, hq⟩ := zpria_inv hq; exact (h _ _ _ _).2 Kn hm E hE q hq⟩
theorem zAd_cp {G : Nat → Int32 → Nat → Int32 → Int32 → List Value → zK → Option zRes} (h : ∀ a b c d e t, zAd (G a b c d e t)) : zAd (fun K => zpcp st fun a b c d e t => G a b c d e t K) :=
  ⟨fun K K' hK q hq => by obtain ⟨_, _, _, _, _, _, rfl, hq⟩ := zpcp_inv hq; exact (h _ _ _ _ _ _).1 K K' hK q hq, fun Kn hm E hE q hq => by obtain ⟨_, _, _, _, _, _, rfl, hq⟩ := zpcp_inv hq; exact (h _ _ _ _ _ _).2 Kn hm E hE q hq⟩
theorem zAd_1v {G : Value → List Value → zK → Option zRes} (h : ∀ x t, zAd (G x t)) : zAd (fun K => zp1v st fun x t => G x t K) :=
  ⟨fun K K' hK q hq => by obtain ⟨_, _, rfl, hc, hq⟩ := zp1v_inv hq; simp only [zp1v, if_pos hc]; exact (h _ _).1 K K' hK q hq, fun Kn hm E hE q hq => by obtain ⟨_, _, rfl, hc, hq⟩ := zp1v_inv hq; simp only [zp1v, if_pos hc]; exact (h _ _).2 Kn hm E hE q hq⟩
theorem zAd_2v {G : Value → Value → List Value → zK → Option zRes} (h : ∀ x y t, zAd (G x y t)) : zAd (fun K => zp2v st fun x y t => G x y t K) :=
  ⟨fun K K' hK q hq => by obtain ⟨_, _, _, rfl, hc, hq⟩ := zp2v_inv hq; simp only [zp2v, if_pos hc]; exact (h _ _ _).1 K K' hK q hq, fun Kn hm E hE q hq => by obtain ⟨_, _, _, rfl, hc, hq⟩ := zp2v_inv hq; simp only [zp2v, if_pos hc]; exact (h _ _ _).2 Kn hm E hE q hq⟩
theorem zAd_pop {G : List Value → List Value → zK → Option zRes} (h : ∀ x t, zAd (G x t)) : zAd (fun K => zpop st n fun x t => G x t K) := by
  unfold zpop
  exact zAd_ite (h _ _) (zAd_c none)
theorem zAd_li {G : Int32 → zK → Option zRes} (h : ∀ x, zAd (G x)) : zAd (fun K => zli lv i fun x => G x K) :=
  ⟨fun K K' hK q hq => by obtain ⟨_, e, hq⟩ := zli_inv hq; simp only [zli, e]; exact (h _).1 K K' hK q hq, fun Kn hm E hE q hq => by obtain ⟨_, e, hq⟩ := zli_inv hq; simp only [zli, e]; exact (h _).2 Kn hm E hE q hq⟩
theorem zAd_ll {G : Int64 → zK → Option zRes} (h : ∀ x, zAd (G x)) : zAd (fun K => zll lv i fun x => G x K) :=
  ⟨fun K K' hK q hq => by obtain ⟨_, e, hq⟩ := zll_inv hq; simp only [zll, e]; exact (h _).1 K K' hK q hq, fun Kn hm E hE q hq => by obtain ⟨_, e, hq⟩ := zll_inv hq; simp only [zll, e]; exact (h _).2 Kn hm E hE q hq⟩
theorem zlq_k {X : Type} {x : Option Nat} {k : Value → Option X} (e : lv[i]? = some (some (va_rf x))) : zlq lv i k = k (va_rf x) := by cases x <;> simp only [zlq, e, va_rf]
theorem zAd_lq {G : Value → zK → Option zRes} (h : ∀ x, zAd (G x)) : zAd (fun K => zlq lv i fun x => G x K) :=
  ⟨fun K K' hK q hq => by obtain ⟨_, e, hq2⟩ := zlq_inv hq; simp only [zlq_k e]; exact (h _).1 K K' hK q hq2, fun Kn hm E hE q hq => by obtain ⟨_, e, hq2⟩ := zlq_inv hq; simp only [zlq_k e]; exact (h _).2 Kn hm E hE q hq2⟩
theorem zAd_s1 {G : List (Option Value) → zK → Option zRes} (h : ∀ x, zAd (G x)) : zAd (fun K => zs1 lv i v fun x => G x K) := by
  unfold zs1
  exact zAd_ite (h _) (zAd_c none)
theorem zAd_s2 {G : List (Option Value) → zK → Option zRes} (h : ∀ x, zAd (G x)) : zAd (fun K => zs2 lv i v fun x => G x K) := by
  unfold zs2
  exact zAd_ite (h _) (zAd_c none)
theorem zAd_ts {G : Nat → zK → Option zRes} (h : ∀ x, zAd (G x)) (x : Int32) (d : Int) : ∀ (os : List Int) (lo : Int), zAd (fun K => zts pc (fun q => G q K) x lo os d)
  | [], _ => h _
  | o :: os, lo => by
    simp only [zts]
    exact zAd_ite (h _) (zAd_ts h x d os _)
theorem zAd_ls {G : Nat → zK → Option zRes} (h : ∀ x, zAd (G x)) (x : Int32) (d : Int) : ∀ (os : List (Int × Int)), zAd (fun K => zls pc (fun q => G q K) x os d)
  | [] => h _
  | o :: os => by
    simp only [zls]
    exact zAd_ite (h _) (zAd_ls h x d os)
theorem zAd_on {x : Option Nat} {G1 : zK → Option zRes} {G2 : Nat → zK → Option zRes} (h1 : zAd G1) (h2 : ∀ b, zAd (G2 b)) : zAd (fun K => match x with | none => G1 K | some b => G2 b K) := by
  cases x with
  | none => exact h1
  | some b => exact h2 b
end ADM
set_option maxHeartbeats 4000000 in
theorem zAd_x (r : zE) (mi pc n : Nat) (ins : Instr) (w : zL) (lv : List (Option Value)) (st : List Value) (h : zH) : zAd (fun K => zx r K K mi pc n ins w lv st h) := by
  unfold zx
  split <;> (try split) <;> (try split) <;> first
    | exact zAd_c _
    | exact zAd_K _ _ _ _ _
    | (repeat' (first | exact zAd_c _ | exact zAd_K _ _ _ _ _ | refine zAd_on ?_ (fun _ => ?_) | refine zAd_1i (fun _ _ => ?_) | refine zAd_2i (fun _ _ _ => ?_) | refine zAd_1l (fun _ _ => ?_) | refine zAd_2l (fun _ _ _ => ?_) | refine zAd_1r (fun _ _ => ?_) | refine zAd_1q (fun _ _ => ?_) | refine zAd_ia (fun _ _ _ => ?_) | refine zAd_la (fun _ _ _ => ?_) | refine zAd_ra (fun _ _ _ => ?_) | refine zAd_iia (fun _ _ _ _ => ?_) | refine zAd_ria (fun _ _ _ _ => ?_) | refine zAd_cp (fun _ _ _ _ _ _ => ?_) | refine zAd_1v (fun _ _ => ?_) | refine zAd_2v (fun _ _ _ => ?_) | refine zAd_pop (fun _ _ => ?_) | refine zAd_li (fun _ => ?_) | refine zAd_ll (fun _ => ?_) | refine zAd_lq (fun _ => ?_) | refine zAd_s1 (fun _ => ?_) | refine zAd_s2 (fun _ => ?_) | refine zAd_ca (fun _ _ => ?_) | exact zAd_ts (fun _ => zAd_K _ _ _ _ _) _ _ _ _ | exact zAd_ls (fun _ => zAd_K _ _ _ _ _) _ _ _ | refine zAd_bind (fun _ => ?_) | refine zAd_ite ?_ ?_ | split))
