/-! THE PURE MACHINE: a heap is a list of cells, counted from a base address; a method is run as a function -/
/-- an int array; an array of references (its class's number); an object (class number, fields) -/
abbrev zC : Type := (Nat × (Nat → Int32)) ⊕ ((Nat × Nat × (Nat → Option Nat)) ⊕ (Nat × List Value))
abbrev zH : Type := List zC
/-- base address; what the old arrays hold (true: chars); where the static arrays are -/
abbrev zE : Type := Nat × (Nat → Option (Bool × Nat × (Nat → Int32))) × (Nat → Nat)
abbrev zRes : Type := Option Value × zH
abbrev zK : Type := Nat → Nat → List (Option Value) → List Value → zH → Option zRes
abbrev zL : Type := Nat × Nat × Nat × Nat × Nat × Int
abbrev zI : Type := Nat × Nat × Instr × zL
def zget (r : zE) (h : zH) (a : Nat) : Option zC := if r.1 ≤ a then h[a - r.1]? else none
def zgI (r : zE) (h : zH) (a ci k : Nat) : Option Int32 := match zget r h a with
  | some (.inr (.inr (c, fs))) => if c = ci then (match fs[k]? with | some (.int x) => some x | _ => none) else none
  | _ => none
def zgL (r : zE) (h : zH) (a ci k : Nat) : Option Int64 := match zget r h a with
  | some (.inr (.inr (c, fs))) => if c = ci then (match fs[k]? with | some (.long x) => some x | _ => none) else none
  | _ => none
def zgR (r : zE) (h : zH) (a ci k : Nat) : Option Nat := match zget r h a with
  | some (.inr (.inr (c, fs))) => if c = ci then (match fs[k]? with | some (.ref x) => some x | _ => none) else none
  | _ => none
def zpF (r : zE) (h : zH) (a ci k : Nat) (v : Value) : Option zH := match zget r h a with
  | some (.inr (.inr (c, fs))) => if c = ci ∧ k < fs.length then some (h.set (a - r.1) (.inr (.inr (c, fs.set k v)))) else none
  | _ => none
def zix (i : Int32) (n : Nat) : Option Nat := if i < 0 ∨ n ≤ i.toNatClampNeg then none else some i.toNatClampNeg
def zaI (r : zE) (h : zH) (a : Nat) (i : Int32) : Option Int32 := if r.1 ≤ a then
    (match h[a - r.1]? with | some (.inl (n, f)) => (zix i n).map f | _ => none)
  else (match r.2.1 a with | some (false, n, f) => (zix i n).map f | _ => none)
def zaC (r : zE) (a : Nat) (i : Int32) : Option Int32 := if r.1 ≤ a then none
  else (match r.2.1 a with | some (true, n, f) => (zix i n).map f | _ => none)
def zaQ (r : zE) (h : zH) (a : Nat) (i : Int32) : Option (Option Nat) := match zget r h a with
  | some (.inr (.inl (c, n, f))) => if c = 4 ∨ c = 2 then (zix i n).map f else none
  | _ => none
def zaN (r : zE) (h : zH) (a : Nat) : Option Nat := if r.1 ≤ a then
    (match h[a - r.1]? with | some (.inl (n, _)) => some n | some (.inr (.inl (c, n, _))) => if c = 4 ∨ c = 2 then some n else none | _ => none)
  else (match r.2.1 a with | some (_, n, _) => some n | _ => none)
def zsI (r : zE) (h : zH) (a : Nat) (i x : Int32) : Option zH := match zget r h a with
  | some (.inl (n, f)) => (zix i n).map fun j => h.set (a - r.1) (.inl (n, upd f j x))
  | _ => none
def zob (r : zE) (h : zH) (a ci : Nat) : Bool := match zget r h a with
  | some (.inr (.inr (c, _))) => c == ci
  | _ => false
def zsQ (r : zE) (h : zH) (a : Nat) (i : Int32) (v : Nat) : Option zH := match zget r h a with
  | some (.inr (.inl (c, n, f))) => if zob r h v c = true ∧ (c = 4 ∨ c = 2) then (zix i n).map fun j => h.set (a - r.1) (.inr (.inl (c, n, va_up f j (some v)))) else none
  | _ => none
def zcp (r : zE) (h : zH) (a0 : Nat) (sp : Int32) (a1 : Nat) (dp n : Int32) : Option zH := match zget r h a0, zget r h a1 with
  | some (.inl (n0, f)), some (.inl (n1, g)) =>
    if sp < 0 ∨ dp < 0 ∨ n < 0 ∨ n0 < sp.toNatClampNeg + n.toNatClampNeg ∨ n1 < dp.toNatClampNeg + n.toNatClampNeg then none
    else some (h.set (a1 - r.1) (.inl (n1, va_cpy f g sp.toNatClampNeg dp.toNatClampNeg n.toNatClampNeg)))
  | _, _ => none
/-! operands -/
section ZP
variable {X : Type}
def zp1i (st : List Value) (k : Int32 → List Value → Option X) : Option X := match st with | .int x :: t => k x t | _ => none
def zp2i (st : List Value) (k : Int32 → Int32 → List Value → Option X) : Option X := match st with | .int y :: .int x :: t => k x y t | _ => none
def zp1l (st : List Value) (k : Int64 → List Value → Option X) : Option X := match st with | .long x :: t => k x t | _ => none
def zp2l (st : List Value) (k : Int64 → Int64 → List Value → Option X) : Option X := match st with | .long y :: .long x :: t => k x y t | _ => none
def zp1r (st : List Value) (k : Nat → List Value → Option X) : Option X := match st with | .ref a :: t => k a t | _ => none
def zp1q (st : List Value) (k : Option Nat → List Value → Option X) : Option X := match st with | .ref a :: t => k (some a) t | .null :: t => k none t | _ => none
def zpia (st : List Value) (k : Nat → Int32 → List Value → Option X) : Option X := match st with | .int i :: .ref a :: t => k a i t | _ => none
def zpla (st : List Value) (k : Nat → Int64 → List Value → Option X) : Option X := match st with | .long i :: .ref a :: t => k a i t | _ => none
def zpra (st : List Value) (k : Nat → Nat → List Value → Option X) : Option X := match st with | .ref i :: .ref a :: t => k a i t | _ => none
def zpiia (st : List Value) (k : Nat → Int32 → Int32 → List Value → Option X) : Option X := match st with | .int x :: .int i :: .ref a :: t => k a i x t | _ => none
def zpria (st : List Value) (k : Nat → Int32 → Nat → List Value → Option X) : Option X := match st with | .ref x :: .int i :: .ref a :: t => k a i x t | _ => none
def zp1v (st : List Value) (k : Value → List Value → Option X) : Option X := match st with | v :: t => (if v.category = 1 then k v t else none) | _ => none
def zp2v (st : List Value) (k : Value → Value → List Value → Option X) : Option X := match st with | v :: w :: t => (if v.category = 1 ∧ w.category = 1 then k v w t else none) | _ => none
def zpcp (st : List Value) (k : Nat → Int32 → Nat → Int32 → Int32 → List Value → Option X) : Option X := match st with | .int n :: .int dp :: .ref a1 :: .int sp :: .ref a0 :: t => k a0 sp a1 dp n t | _ => none
def zpop (st : List Value) (n : Nat) (k : List Value → List Value → Option X) : Option X := if n ≤ st.length ∧ ((st.drop n).map fun v => v.category).sum ≤ 8 then k (st.take n).reverse (st.drop n) else none
def zli (lv : List (Option Value)) (i : Nat) (k : Int32 → Option X) : Option X := match lv[i]? with | some (some (.int x)) => k x | _ => none
def zll (lv : List (Option Value)) (i : Nat) (k : Int64 → Option X) : Option X := match lv[i]? with | some (some (.long x)) => k x | _ => none
def zlq (lv : List (Option Value)) (i : Nat) (k : Value → Option X) : Option X := match lv[i]? with | some (some (.ref x)) => k (.ref x) | some (some .null) => k .null | _ => none
def zcV (q : Option zRes) (k : zH → Option X) : Option X := match q with | some (none, h) => k h | _ => none
def zcI (q : Option zRes) (k : Int32 → zH → Option X) : Option X := match q with | some (some (.int x), h) => k x h | _ => none
def zcL (q : Option zRes) (k : Int64 → zH → Option X) : Option X := match q with | some (some (.long x), h) => k x h | _ => none
def zcQ (q : Option zRes) (k : Option Nat → zH → Option X) : Option X := match q with | some (some (.ref a), h) => k (some a) h | some (some .null, h) => k none h | _ => none
def zcl (lv : List (Option Value)) (i : Nat) : List (Option Value) := match i with
  | 0 => lv
  | j + 1 => match lv[j]? with
    | some (some v) => if v.category = 2 then lv.set j none else lv
    | _ => lv
def zs1 (lv : List (Option Value)) (i : Nat) (v : Value) (k : List (Option Value) → Option X) : Option X := if i < lv.length then k ((zcl lv i).set i (some v)) else none
def zs2 (lv : List (Option Value)) (i : Nat) (v : Value) (k : List (Option Value) → Option X) : Option X := if i + 1 < lv.length then k (((zcl lv i).set i (some v)).set (i + 1) none) else none
def zenl (vs : List Value) : List (Option Value) := vs.flatMap fun v => if v.category = 2 then [some v, none] else [some v]
def zent (n : Nat) (vs : List Value) : List (Option Value) := zenl vs ++ List.replicate (n - (zenl vs).length) none
def zt (pc : Nat) (off : Int) : Nat := ((pc : Int) + off).toNat
def zts (pc : Nat) (k : Nat → Option X) (x : Int32) : Int → List Int → Int → Option X
  | _, [], d => k (zt pc d)
  | lo, o :: os, d => if x = Int32.ofInt lo then k (zt pc o) else zts pc k x (lo + 1) os d
def zls (pc : Nat) (k : Nat → Option X) (x : Int32) : List (Int × Int) → Int → Option X
  | [], d => k (zt pc d)
  | o :: os, d => if x = Int32.ofInt o.1 then k (zt pc o.2) else zls pc k x os d
end ZP
/-- locals forgotten, by the bits of a number -/
def zfg : Nat → List (Option Value) → List (Option Value)
  | _, [] => []
  | m, v :: l => (if m % 2 = 1 then none else v) :: zfg (m / 2) l
/-- default fields of the classes, by number -/
def zdf (ci : Nat) : List Value := match ci with
  | 0 => [.null, .null, .null, .null, .null]
  | 1 => [.int 0, .int 0, .null, .null, .null, .null, .null]
  | 2 => [.null, .int 0]
  | 3 => [.null, .null, .int 0]
  | 4 => [.null, .int 0]
  | _ => (List.range 12).map (fun j => defaultValue (tyX5 j))
/-- a call, by the kind of its answer -/
def zca (kind : Nat) (q : Option zRes) (k : List Value → zH → Option zRes) : Option zRes := match kind with
  | 0 => zcV q fun h => k [] h
  | 1 => zcI q fun x h => k [.int x] h
  | 2 => zcL q fun x h => k [.long x] h
  | _ => zcQ q fun x h => match x with | none => k [.null] h | some a => k [.ref a] h
/-- one instruction: Kc runs a callee, K goes on -/
def zx (r : zE) (Kc K : zK) (mi pc n : Nat) (ins : Instr) (w : zL) (lv : List (Option Value)) (st : List Value) (h : zH) : Option zRes := match ins with
  | .iconst i => K mi (pc + n) lv (.int (Int32.ofInt i) :: st) h
  | .bipush i => K mi (pc + n) lv (.int (Int32.ofInt i) :: st) h
  | .sipush i => K mi (pc + n) lv (.int (Int32.ofInt i) :: st) h
  | .lconst i => K mi (pc + n) lv (.long (Int64.ofNat i) :: st) h
  | .ldc _ => K mi (pc + n) lv (.int (Int32.ofInt w.2.2.2.2.2) :: st) h
  | .ldc_w _ => K mi (pc + n) lv (.int (Int32.ofInt w.2.2.2.2.2) :: st) h
  | .ldc2_w _ => K mi (pc + n) lv (.long (Int64.ofInt w.2.2.2.2.2) :: st) h
  | .aconst_null => K mi (pc + n) lv (.null :: st) h
  | .iload i => zli lv i fun x => K mi (pc + n) lv (.int x :: st) h
  | .iload_n i => zli lv i fun x => K mi (pc + n) lv (.int x :: st) h
  | .lload i => zll lv i fun x => K mi (pc + n) lv (.long x :: st) h
  | .lload_n i => zll lv i fun x => K mi (pc + n) lv (.long x :: st) h
  | .aload i => zlq lv i fun x => K mi (pc + n) lv (x :: st) h
  | .aload_n i => zlq lv i fun x => K mi (pc + n) lv (x :: st) h
  | .istore i => zp1i st fun x t => zs1 lv i (.int x) fun lv => K mi (pc + n) lv t h
  | .istore_n i => zp1i st fun x t => zs1 lv i (.int x) fun lv => K mi (pc + n) lv t h
  | .lstore i => zp1l st fun x t => zs2 lv i (.long x) fun lv => K mi (pc + n) lv t h
  | .lstore_n i => zp1l st fun x t => zs2 lv i (.long x) fun lv => K mi (pc + n) lv t h
  | .astore i => zp1q st fun x t => zs1 lv i (va_rf x) fun lv => K mi (pc + n) lv t h
  | .astore_n i => zp1q st fun x t => zs1 lv i (va_rf x) fun lv => K mi (pc + n) lv t h
  | .iinc i c => zli lv i fun x => zs1 lv i (.int (x + Int32.ofInt c)) fun lv => K mi (pc + n) lv st h
  | .iadd => zp2i st fun x y t => K mi (pc + n) lv (.int (x + y) :: t) h
  | .isub => zp2i st fun x y t => K mi (pc + n) lv (.int (x - y) :: t) h
  | .imul => zp2i st fun x y t => K mi (pc + n) lv (.int (x * y) :: t) h
  | .iand => zp2i st fun x y t => K mi (pc + n) lv (.int (x &&& y) :: t) h
  | .ior => zp2i st fun x y t => K mi (pc + n) lv (.int (x ||| y) :: t) h
  | .ixor => zp2i st fun x y t => K mi (pc + n) lv (.int (x ^^^ y) :: t) h
  | .idiv => zp2i st fun x y t => if y = 0 then none else K mi (pc + n) lv (.int (x / y) :: t) h
  | .irem => zp2i st fun x y t => if y = 0 then none else K mi (pc + n) lv (.int (x - x / y * y) :: t) h
  | .ineg => zp1i st fun x t => K mi (pc + n) lv (.int (-x) :: t) h
  | .ishl => zp2i st fun x y t => K mi (pc + n) lv (.int (x <<< (y &&& 31)) :: t) h
  | .ishr => zp2i st fun x y t => K mi (pc + n) lv (.int (x >>> (y &&& 31)) :: t) h
  | .iushr => zp2i st fun x y t => K mi (pc + n) lv (.int ((x.toUInt32 >>> (y.toUInt32 &&& Int32.toUInt32 31)).toInt32) :: t) h
  | .ladd => zp2l st fun x y t => K mi (pc + n) lv (.long (x + y) :: t) h
  | .lmul => zp2l st fun x y t => K mi (pc + n) lv (.long (x * y) :: t) h
  | .ldiv => zp2l st fun x y t => if y = 0 then none else K mi (pc + n) lv (.long (x / y) :: t) h
  | .lrem => zp2l st fun x y t => if y = 0 then none else K mi (pc + n) lv (.long (x - x / y * y) :: t) h
  | .lneg => zp1l st fun x t => K mi (pc + n) lv (.long (-x) :: t) h
  | .lcmp => zp2l st fun x y t => K mi (pc + n) lv (.int (lg_cmp x y) :: t) h
  | .i2l => zp1i st fun x t => K mi (pc + n) lv (.long x.toInt64 :: t) h
  | .l2i => zp1l st fun x t => K mi (pc + n) lv (.int x.toInt32 :: t) h
  | .i2b => zp1i st fun x t => K mi (pc + n) lv (.int x.toInt8.toInt32 :: t) h
  | .dup => zp1v st fun v t => K mi (pc + n) lv (v :: v :: t) h
  | .pop => zp1v st fun _ t => K mi (pc + n) lv t h
  | .dup2 => zp2v st fun v u t => K mi (pc + n) lv (v :: u :: v :: u :: t) h
  | .goto _ => K mi w.1 (zfg w.2.1 lv) st h
  | .ifCond .eq _ => zp1i st fun x t => if x = 0 then K mi w.1 lv t h else K mi (pc + n) lv t h
  | .ifCond .ne _ => zp1i st fun x t => if x = 0 then K mi (pc + n) lv t h else K mi w.1 lv t h
  | .ifCond .lt _ => zp1i st fun x t => if x < 0 then K mi w.1 lv t h else K mi (pc + n) lv t h
  | .ifCond .ge _ => zp1i st fun x t => if x < 0 then K mi (pc + n) lv t h else K mi w.1 lv t h
  | .ifCond .gt _ => zp1i st fun x t => if 0 < x then K mi w.1 lv t h else K mi (pc + n) lv t h
  | .ifCond .le _ => zp1i st fun x t => if 0 < x then K mi (pc + n) lv t h else K mi w.1 lv t h
  | .if_icmp .eq _ => zp2i st fun x y t => if x = y then K mi w.1 lv t h else K mi (pc + n) lv t h
  | .if_icmp .ne _ => zp2i st fun x y t => if x = y then K mi (pc + n) lv t h else K mi w.1 lv t h
  | .if_icmp .lt _ => zp2i st fun x y t => if x < y then K mi w.1 lv t h else K mi (pc + n) lv t h
  | .if_icmp .ge _ => zp2i st fun x y t => if x < y then K mi (pc + n) lv t h else K mi w.1 lv t h
  | .if_icmp .gt _ => zp2i st fun x y t => if y < x then K mi w.1 lv t h else K mi (pc + n) lv t h
  | .if_icmp .le _ => zp2i st fun x y t => if y < x then K mi (pc + n) lv t h else K mi w.1 lv t h
  | .ifnull _ => zp1q st fun x t => match x with | none => K mi w.1 lv t h | some _ => K mi (pc + n) lv t h
  | .ifnonnull _ => zp1q st fun x t => match x with | none => K mi (pc + n) lv t h | some _ => K mi w.1 lv t h
  | .tableswitch d lo _ os => zp1i st fun x t => zts pc (fun q => K mi q lv t h) x lo os.toList d
  | .lookupswitch d ps => zp1i st fun x t => zls pc (fun q => K mi q lv t h) x ps.toList d
  | .getfield _ => zp1r st fun a t => match w.2.2.1 with
    | 0 => (zgI r h a w.1 w.2.1).bind fun x => K mi (pc + n) lv (.int x :: t) h
    | 1 => (zgL r h a w.1 w.2.1).bind fun x => K mi (pc + n) lv (.long x :: t) h
    | _ => (zgR r h a w.1 w.2.1).bind fun x => K mi (pc + n) lv (.ref x :: t) h
  | .putfield _ => match w.2.2.1 with
    | 0 => zpia st fun a x t => (zpF r h a w.1 w.2.1 (.int x)).bind fun h => K mi (pc + n) lv t h
    | 1 => zpla st fun a x t => (zpF r h a w.1 w.2.1 (.long x)).bind fun h => K mi (pc + n) lv t h
    | _ => zpra st fun a x t => (zpF r h a w.1 w.2.1 (.ref x)).bind fun h => K mi (pc + n) lv t h
  | .getstatic _ => K mi (pc + n) lv (.ref (r.2.2 w.1) :: st) h
  | .new _ => K mi (pc + n) lv (.ref (r.1 + h.length) :: st) (h ++ [.inr (.inr (w.1, zdf w.1))])
  | .newarray .int => zp1i st fun x t => if x < 0 ∨ 100000 < x.toNatClampNeg then none else K mi (pc + n) lv (.ref (r.1 + h.length) :: t) (h ++ [.inl (x.toNatClampNeg, fun _ => 0)])
  | .anewarray _ => zp1i st fun x t => if x < 0 ∨ 100000 < x.toNatClampNeg then none else K mi (pc + n) lv (.ref (r.1 + h.length) :: t) (h ++ [.inr (.inl (w.1, x.toNatClampNeg, fun _ => none))])
  | .iaload => zpia st fun a i t => (zaI r h a i).bind fun x => K mi (pc + n) lv (.int x :: t) h
  | .caload => zpia st fun a i t => (zaC r a i).bind fun x => K mi (pc + n) lv (.int x :: t) h
  | .aaload => zpia st fun a i t => (zaQ r h a i).bind fun x => match x with | none => K mi (pc + n) lv (.null :: t) h | some b => K mi (pc + n) lv (.ref b :: t) h
  | .iastore => zpiia st fun a i x t => (zsI r h a i x).bind fun h => K mi (pc + n) lv t h
  | .aastore => zpria st fun a i x t => (zsQ r h a i x).bind fun h => K mi (pc + n) lv t h
  | .arraylength => zp1r st fun a t => (zaN r h a).bind fun x => K mi (pc + n) lv (.int (Int32.ofNat x) :: t) h
  | .invokevirtual _ => zpop st w.2.2.1 fun as t => zp1r t fun b t => if zob r h b w.2.2.2.2.2.toNat = true then (if (zenl (.ref b :: as)).length ≤ w.2.2.2.2.1 then
      zca w.2.2.2.1 (Kc w.1 0 (zent w.2.2.2.2.1 (.ref b :: as)) [] h) fun v h => K mi (pc + n) lv (v ++ t) h else none) else none
  | .invokespecial _ => match w.2.1 with
    | 4 => zp1r st fun _ t => if (t.map fun v => v.category).sum ≤ 8 then K mi (pc + n) lv t h else none
    | _ => zpop st w.2.2.1 fun as t => zp1r t fun b t => if (zenl (.ref b :: as)).length ≤ w.2.2.2.2.1 then
      zca w.2.2.2.1 (Kc w.1 0 (zent w.2.2.2.2.1 (.ref b :: as)) [] h) fun v h => K mi (pc + n) lv (v ++ t) h else none
  | .invokestatic _ => match w.2.1 with
    | 3 => zpcp st fun a0 sp a1 dp m t => if (t.map fun v => v.category).sum ≤ 8 then (zcp r h a0 sp a1 dp m).bind fun h => K mi (pc + n) lv t h else none
    | 5 => zp1i st fun x t => if (t.map fun v => v.category).sum ≤ 8 then K mi (pc + n) lv (.int (if 0 ≤ x then x else 0 - x) :: t) h else none
    | 6 => zp2i st fun x y t => if (t.map fun v => v.category).sum ≤ 8 then K mi (pc + n) lv (.int (if x < y then y else x) :: t) h else none
    | 7 => zp2i st fun x y t => if (t.map fun v => v.category).sum ≤ 8 then K mi (pc + n) lv (.int (if y < x then y else x) :: t) h else none
    | 8 => zp1l st fun x t => if (t.map fun v => v.category).sum ≤ 8 then K mi (pc + n) lv (.long (if 0 < x then x else -x) :: t) h else none
    | 9 => zp2l st fun x y t => if (t.map fun v => v.category).sum ≤ 8 then K mi (pc + n) lv (.long (if y < x then x else y) :: t) h else none
    | _ => zpop st w.2.2.1 fun as t => if (zenl as).length ≤ w.2.2.2.2.1 then
      zca w.2.2.2.1 (Kc w.1 0 (zent w.2.2.2.2.1 as) [] h) fun v h => K mi (pc + n) lv (v ++ t) h else none
  | .ireturn => match st with
    | [.int x] => (match w.1 with | 0 => some (some (.int x), h) | _ => if x = 0 ∨ x = 1 then some (some (.int x), h) else none)
    | _ => none
  | .lreturn => match st with | [.long x] => some (some (.long x), h) | _ => none
  | .areturn => match st with | [.ref x] => some (some (.ref x), h) | [.null] => some (some .null, h) | _ => none
  | .return_ => match st with | [] => some (none, h) | _ => none
  | _ => none
def zlk : List zI → Nat → Option (Nat × Instr × zL)
  | [], _ => none
  | q :: l, pc => if q.1 = pc then some q.2 else zlk l pc
