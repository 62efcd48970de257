/-! THE PURE MACHINE IS THE MACHINE: worlds, locals -/
abbrev zG : Type := va_G × ClassId × (Nat → ClassId)
def zenc (aI : ClassId) (aR : Nat → ClassId) (c : zC) : va_E := match c with
  | .inl q => .inl (aI, q.1, .inl q.2)
  | .inr (.inl q) => .inl (aR q.1, q.2.1, .inr (.inr (.inr (.inr q.2.2))))
  | .inr (.inr q) => .inr q
def zHS (G : zG) (r : zE) (s : State) (h : zH) (H : Heap) : Prop :=
  H.size = r.1 + h.length ∧ (∀ (k : Nat) (c : zC), h[k]? = some c → va_at G.1 zcls (r.1 + k, zenc G.2.1 G.2.2 c) H) ∧
  (∀ (a : Nat) (q : Bool × Nat × (Nat → Int32)), r.2.1 a = some q → va_T (if q.1 = true then .char else .int) a q.2.1 (fun j => .int (q.2.2 j)) (fun x => r.1 ≤ x) s H) ∧
  (∀ (i : Nat) (q : String × String × String), zstat[i]? = some q → va_Z q.1 q.2.1 q.2.2 (.ref (r.2.2 i)) (fun x => r.1 ≤ x) s H)
def zgt : List Cond := lw_tbl.filter goodWord
theorem zgt_of {w : Cond} (h : w ∈ lw_tbl) (hg : goodWord w = true) : w ∈ zgt := List.mem_filter.mpr ⟨h, hg⟩
theorem zgood : GoodIn zgt zgt := fun w hw => ⟨hw, good_of_word (List.mem_filter.mp hw).2⟩
/-- words that move by rows of their own -/
def zNd : Cond → Bool
  | .fieldLinkNest _ _ _ _ _ _ => true
  | .methodLinkNest _ _ _ _ => true
  | .arrayOver (.object _) => true
  | _ => false
def zNs (s : State) : Prop := ∀ w ∈ lw_tbl, zNd w = true → va_Nw w s
theorem zNs.warm {s U : State} (hW : s.WarmedH U.vm) (h : zNs s) : zNs U := by
  intro w hw hd
  have k := h w hw hd
  unfold zNd at hd
  split at hd
  · exact va_Nw.warmF hW k
  · exact va_Nw.warmM hW k
  · exact va_AO.moved hW.alike k
  · cases hd
def zKS (G : zG) (s : State) : Prop := va_K G.1 zcls [(G.2.1, .int), (G.2.2 4, .object RX4), (G.2.2 2, .object RX2)] s ∧ zNs s
theorem zKS.warm {G : zG} {s U : State} (hW : s.WarmedH U.vm) (h : zKS G s) : zKS G U := ⟨va_K.moved hW.alike h.1, h.2.warm hW⟩
def zWS (G : zG) (r : zE) (h : zH) (U : State) : Prop := zHS G r U h U.heap ∧ zKS G U
theorem zHS.moved {G : zG} {r : zE} {s t : State} {h : zH} {H : Heap} (hvm : s.vm.Alike t.vm) (hs : zHS G r s h H) : zHS G r t h H :=
  ⟨hs.1, hs.2.1, fun a q e => (hs.2.2.1 a q e).moved hvm, fun i q e => (hs.2.2.2 i q e).moved hvm⟩
theorem zHS.set {G : zG} {r : zE} {s : State} {h : zH} {H H1 : Heap} {k : Nat} {c1 : zC} (hs : zHS G r s h H) (hk : k < h.length) (h1 : va_at G.1 zcls (r.1 + k, zenc G.2.1 G.2.2 c1) H1) (hz : H1.size = H.size) (hq : ∀ q : Nat, q ≠ r.1 + k → H1[q]? = H[q]?) : zHS G r s (h.set k c1) H1 := by
  have ho : ∀ a : Nat, a < H.size → ¬ r.1 ≤ a → H1[a]? = H[a]? := fun a _ ha => hq a (by omega)
  refine ⟨by rw [hz, hs.1, List.length_set], fun j c hj => ?_, fun a q e => (hs.2.2.1 a q e).kept ho, fun i q e => (hs.2.2.2 i q e).kept ho⟩
  by_cases hjk : j = k
  · subst hjk
    rw [List.getElem?_set_self hk] at hj
    cases hj
    exact h1
  · rw [List.getElem?_set_ne (Ne.symm hjk)] at hj
    exact (hs.2.1 j c hj).kept (hq _ (by show r.1 + j ≠ r.1 + k; omega))
theorem zHS.push {G : zG} {r : zE} {s : State} {h : zH} {H H1 : Heap} {c1 : zC} (hs : zHS G r s h H) (h1 : va_at G.1 zcls (r.1 + h.length, zenc G.2.1 G.2.2 c1) H1) (hz : H1.size = H.size + 1) (hq : ∀ q : Nat, q < H.size → H1[q]? = H[q]?) : zHS G r s (h ++ [c1]) H1 := by
  have ho : ∀ a : Nat, a < H.size → ¬ r.1 ≤ a → H1[a]? = H[a]? := fun a ha _ => hq a ha
  refine ⟨by rw [hz, hs.1, List.length_append, List.length_singleton]; omega, fun j c hj => ?_, fun a q e => (hs.2.2.1 a q e).kept ho, fun i q e => (hs.2.2.2 i q e).kept ho⟩
  by_cases hjk : j < h.length
  · rw [List.getElem?_append_left hjk] at hj
    exact (hs.2.1 j c hj).kept (hq _ (by show r.1 + j < H.size; rw [hs.1]; omega))
  · rw [List.getElem?_append_right (by omega)] at hj
    have hlt := (List.getElem?_eq_some_iff.mp hj).1
    simp only [List.length_singleton] at hlt
    have e : j = h.length := by omega
    subst e
    rw [Nat.sub_self] at hj
    cases hj
    exact h1
theorem zget_inv {r : zE} {h : zH} {a : Nat} {c : zC} (e : zget r h a = some c) : r.1 ≤ a ∧ h[a - r.1]? = some c ∧ r.1 + (a - r.1) = a := by
  unfold zget at e
  split at e
  · rename_i hc
    exact ⟨hc, e, by omega⟩
  · cases e
theorem zHS.at {G : zG} {r : zE} {s : State} {h : zH} {H : Heap} {a : Nat} {c : zC} (hs : zHS G r s h H) (e : zget r h a = some c) : va_at G.1 zcls (a, zenc G.2.1 G.2.2 c) H := by
  obtain ⟨_, e1, e2⟩ := zget_inv e
  have := hs.2.1 _ _ e1
  rw [e2] at this
  exact this
/-! sizes -/
def zcs (c : zC) : Nat := match c with
  | .inl q => q.1
  | .inr (.inl q) => q.2.1
  | .inr (.inr q) => ((zcls[q.1]?).map fun x => x.2.2).getD 0
def zhs : zH → Nat
  | [] => 0
  | c :: l => zcs c + zhs l
theorem zhs_app : ∀ (h g : zH), zhs (h ++ g) = zhs h + zhs g
  | [], g => by simp [zhs]
  | c :: l, g => by simp only [List.cons_append, zhs, zhs_app l g]; omega
theorem zhs_set {c0 c1 : zC} (e : zcs c1 = zcs c0) : ∀ (h : zH) (k : Nat), h[k]? = some c0 → zhs (h.set k c1) = zhs h
  | [], _, hk => by simp at hk
  | c :: l, 0, hk => by simp at hk; subst hk; simp only [List.set_cons_zero, zhs, e]
  | c :: l, k + 1, hk => by simp at hk; simp only [List.set_cons_succ, zhs, zhs_set e l k hk]
/-! locals -/
def zLV (ls : Array Slot) (nL : Nat) (lv : List (Option Value)) : Prop := ls.size = nL ∧ lv.length = nL ∧ lv_wf ls ∧ ∀ (i : Nat) (v : Value), lv[i]? = some (some v) → ls[i]? = some (.val v)
def zal (lv : List (Option Value)) : List (Nat × Value) := lv.zipIdx.filterMap fun q => q.1.map fun v => (q.2, v)
theorem zal_mem {lv : List (Option Value)} {i : Nat} {v : Value} : (i, v) ∈ zal lv ↔ lv[i]? = some (some v) := by
  unfold zal
  rw [List.mem_filterMap]
  constructor
  · rintro ⟨⟨o, j⟩, hm, e⟩
    rw [List.mk_mem_zipIdx_iff_getElem?] at hm
    cases o with
    | none => cases e
    | some w => simp at e; rw [← e.1, ← e.2]; exact hm
  · intro e
    exact ⟨(some v, i), List.mk_mem_zipIdx_iff_getElem?.mpr e, rfl⟩
theorem zLV.has {ls : Array Slot} {nL : Nat} {lv : List (Option Value)} (h : zLV ls nL lv) : lv_has ls nL (zal lv) := ⟨h.1, h.2.2.1, fun q hq => h.2.2.2 q.1 q.2 (zal_mem.mp hq)⟩
theorem zcl_len (lv : List (Option Value)) (i : Nat) : (zcl lv i).length = lv.length := by
  unfold zcl
  split
  · rfl
  · split
    · split
      · simp
      · rfl
    · rfl
theorem zcl_get {lv : List (Option Value)} {i j : Nat} {w : Value} (h : (zcl lv i)[j]? = some (some w)) : lv[j]? = some (some w) ∧ ¬ (j + 1 = i ∧ w.category = 2) := by
  unfold zcl at h
  split at h
  · exact ⟨h, by omega⟩
  · rename_i k
    split at h
    · rename_i v hv
      split at h
      · rename_i hc
        by_cases hjk : j = k
        · subst hjk
          rw [List.getElem?_set_self (List.getElem?_eq_some_iff.mp hv).1] at h
          cases h
        · rw [List.getElem?_set_ne (Ne.symm hjk)] at h
          exact ⟨h, by omega⟩
      · rename_i hc
        refine ⟨h, fun q => ?_⟩
        have : j = k := by omega
        subst this
        rw [hv] at h
        cases h
        exact hc q.2
    · rename_i hn
      refine ⟨h, fun q => ?_⟩
      have : j = k := by omega
      subst this
      exact hn _ h
theorem zLV.of1 {ls ls' : Array Slot} {nL : Nat} {lv : List (Option Value)} {i : Nat} {v : Value} (h : zLV ls nL lv) (hi : i < lv.length) (hs : lv_has ls' nL ((i, v) :: (zal lv).filter (fun q => !(q.1 == i) && !(q.1 + 1 == i && q.2.category == 2)))) : zLV ls' nL ((zcl lv i).set i (some v)) := by
  refine ⟨hs.1, by rw [List.length_set, zcl_len]; exact h.2.1, hs.2.1, fun j w hj => ?_⟩
  by_cases hji : j = i
  · subst hji
    rw [List.getElem?_set_self (by rw [zcl_len]; exact hi)] at hj
    cases hj
    exact hs.2.2 (j, v) List.mem_cons_self
  · rw [List.getElem?_set_ne (Ne.symm hji)] at hj
    obtain ⟨h1, h2⟩ := zcl_get hj
    refine hs.2.2 (j, w) (List.mem_cons_of_mem _ (List.mem_filter.mpr ⟨zal_mem.mpr h1, ?_⟩))
    simp only [Bool.and_eq_true, Bool.not_eq_true', beq_eq_false_iff_ne, ne_eq, Bool.and_eq_false_iff]
    refine ⟨hji, ?_⟩
    by_cases a : j + 1 = i
    · exact Or.inr fun b => h2 ⟨a, b⟩
    · exact Or.inl a
theorem zLV.of2 {ls ls' : Array Slot} {nL : Nat} {lv : List (Option Value)} {i : Nat} {v : Value} (h : zLV ls nL lv) (hi : i + 1 < lv.length) (hs : lv_has ls' nL ((i, v) :: (zal lv).filter (fun q => !(q.1 == i) && (!(q.1 == i + 1) && !(q.1 + 1 == i && q.2.category == 2))))) : zLV ls' nL (((zcl lv i).set i (some v)).set (i + 1) none) := by
  refine ⟨hs.1, by rw [List.length_set, List.length_set, zcl_len]; exact h.2.1, hs.2.1, fun j w hj => ?_⟩
  by_cases hj1 : j = i + 1
  · subst hj1
    rw [List.getElem?_set_self (by rw [List.length_set, zcl_len]; exact hi)] at hj
    cases hj
  · rw [List.getElem?_set_ne (Ne.symm hj1)] at hj
    by_cases hji : j = i
    · subst hji
      rw [List.getElem?_set_self (by rw [zcl_len]; omega)] at hj
      cases hj
      exact hs.2.2 (j, v) List.mem_cons_self
    · rw [List.getElem?_set_ne (Ne.symm hji)] at hj
      obtain ⟨h1, h2⟩ := zcl_get hj
      refine hs.2.2 (j, w) (List.mem_cons_of_mem _ (List.mem_filter.mpr ⟨zal_mem.mpr h1, ?_⟩))
      simp only [Bool.and_eq_true, Bool.not_eq_true', beq_eq_false_iff_ne, ne_eq, Bool.and_eq_false_iff]
      refine ⟨hji, hj1, ?_⟩
      by_cases a : j + 1 = i
      · exact Or.inr fun b => h2 ⟨a, b⟩
      · exact Or.inl a
theorem zfg_len : ∀ (l : List (Option Value)) (m : Nat), (zfg m l).length = l.length
  | [], _ => rfl
  | v :: l, m => by simp only [zfg, List.length_cons, zfg_len l]
theorem zfg_get {v : Value} : ∀ (l : List (Option Value)) (m i : Nat), (zfg m l)[i]? = some (some v) → l[i]? = some (some v)
  | [], _, _, h => by simp [zfg] at h
  | u :: l, m, 0, h => by
    simp only [zfg, List.getElem?_cons_zero] at h ⊢
    split at h
    · cases h
    · exact h
  | u :: l, m, i + 1, h => by
    simp only [zfg, List.getElem?_cons_succ] at h ⊢
    exact zfg_get l _ i h
theorem zLV.forget {ls : Array Slot} {nL m : Nat} {lv : List (Option Value)} (h : zLV ls nL lv) : zLV ls nL (zfg m lv) := ⟨h.1, by rw [zfg_len]; exact h.2.1, h.2.2.1, fun i v hi => h.2.2.2 i v (zfg_get lv m i hi)⟩
theorem zenl_len : ∀ vs : List Value, (lg_sl vs).length = (zenl vs).length
  | [] => rfl
  | v :: l => by
    have := zenl_len l
    unfold lg_sl zenl at this ⊢
    simp only [List.flatMap_cons, List.length_append, this]
    by_cases h : v.category = 2 <;> simp [h]
theorem zenl_at {v : Value} : ∀ (vs : List Value) (k i : Nat), (zenl vs)[i]? = some (some v) → (k + i, v) ∈ lv_args k vs
  | [], _, _, h => by simp [zenl] at h
  | u :: l, k, i, h => by
    have ih := zenl_at (v := v) l
    unfold zenl at h ih
    simp only [List.flatMap_cons] at h
    simp only [lv_args]
    by_cases hc : u.category = 2
    · rw [if_pos hc] at h
      rw [if_pos hc]
      match i, h with
      | 0, h => simp at h; subst h; exact List.mem_cons_self
      | 1, h => simp at h
      | i + 2, h =>
        have := ih (k + 2) i (by simpa using h)
        rw [show k + (i + 2) = k + 2 + i by omega]
        exact List.mem_cons_of_mem _ this
    · rw [if_neg hc] at h
      rw [if_neg hc]
      match i, h with
      | 0, h => simp at h; subst h; exact List.mem_cons_self
      | i + 1, h =>
        have := ih (k + 1) i (by simpa using h)
        rw [show k + (i + 1) = k + 1 + i by omega]
        exact List.mem_cons_of_mem _ this
theorem zent_lv (vs : List Value) {n : Nat} (h : (zenl vs).length ≤ n) : zLV ((lg_sl vs ++ List.replicate (n - (lg_sl vs).length) Slot.unset).toArray) n (zent n vs) := by
  have he := lv_entry vs (n := n) (by rw [zenl_len]; exact h)
  refine ⟨he.1, by unfold zent; rw [List.length_append, List.length_replicate]; omega, he.2.1, fun i v hi => ?_⟩
  refine he.2.2 (i, v) ?_
  unfold zent at hi
  by_cases hl : i < (zenl vs).length
  · rw [List.getElem?_append_left hl] at hi
    have := zenl_at vs 0 i hi
    rwa [Nat.zero_add] at this
  · rw [List.getElem?_append_right (by omega), List.getElem?_replicate] at hi
    split at hi <;> cases hi
