/-! stretches of code as equations (printed by wip/p48/gen20.py) -/
set_option maxRecDepth 100000 in
theorem E_X5_init_0 (r : zE) (h : zH) (x : Nat) : zev r i_X5_init 0 [some (.ref x), none] [] h =
    ((zpF r (h ++ [.inr (.inl (4, 6, fun _ => none))] : zH) x 5 0 (.ref (r.1 + h.length))).bind fun h1 =>
    (zpF r (h1 ++ [.inr (.inl (4, 4, fun _ => none))] : zH) x 5 1 (.ref (r.1 + h1.length))).bind fun h2 =>
    zcV (zev r i_X1_init 0 [some (.ref (r.1 + h2.length))] [] (h2 ++ [.inr (.inr (1, [.int 0, .int 0, .null, .null, .null, .null, .null]))] : zH)) fun h3 =>
    (zpF r h3 x 5 2 (.ref (r.1 + h2.length))).bind fun h4 =>
    (zgR r (h4 ++ [.inr (.inr (0, [.null, .null, .null, .null, .null]))] : zH) x 5 2).bind fun v1 =>
    zcV (zev r i_X0_init 0 [some (.ref (r.1 + h4.length)), some (.ref v1)] [] (h4 ++ [.inr (.inr (0, [.null, .null, .null, .null, .null]))] : zH)) fun h5 =>
    (zpF r h5 x 5 3 (.ref (r.1 + h4.length))).bind fun h6 =>
    (zgR r (h6 ++ [.inr (.inr (0, [.null, .null, .null, .null, .null]))] : zH) x 5 2).bind fun v2 =>
    zcV (zev r i_X0_init 0 [some (.ref (r.1 + h6.length)), some (.ref v2)] [] (h6 ++ [.inr (.inr (0, [.null, .null, .null, .null, .null]))] : zH)) fun h7 =>
    (zpF r h7 x 5 4 (.ref (r.1 + h6.length))).bind fun h8 =>
    zcV (zev r i_X2_init 0 [some (.ref (r.1 + h8.length)), some (.int (0 : Int32))] [] (h8 ++ [.inr (.inr (2, [.null, .int 0]))] : zH)) fun h9 =>
    (zpF r h9 x 5 5 (.ref (r.1 + h8.length))).bind fun h10 =>
    (zpF r (h10 ++ [.inr (.inl (2, 3, fun _ => none))] : zH) x 5 6 (.ref (r.1 + h10.length))).bind fun h11 =>
    (zpF r h11 x 5 7 (.int (0 : Int32))).bind fun h12 =>
    (zpF r h12 x 5 8 (.long (0 : Int64))).bind fun h13 =>
    (zpF r h13 x 5 9 (.long (1 : Int64))).bind fun h14 =>
    (zpF r h14 x 5 10 (.int (0 : Int32))).bind fun h15 =>
    (zpF r (h15 ++ [.inl (6, fun _ => 0)] : zH) x 5 11 (.ref (r.1 + h15.length))).bind fun h16 =>
    zev r i_X5_init 112 [some (.ref x), some (.int (0 : Int32))] [] h16) := zblk r [112, 142, 172] 108 _ _ _ _ _
set_option maxRecDepth 100000 in
theorem E_X5_init_112 (r : zE) (h : zH) (x : Nat) (l1 : Int32) : zev r i_X5_init 112 [some (.ref x), some (.int l1)] [] h =
    ((zgR r h x 5 0).bind fun v1 =>
    (zaN r h v1).bind fun n2 =>
    if l1 < (Int32.ofNat n2) then
      (zgR r h x 5 0).bind fun v3 =>
      zcV (zev r i_X4_init 0 [some (.ref (r.1 + h.length))] [] (h ++ [.inr (.inr (4, [.null, .int 0]))] : zH)) fun h1 =>
      (zsQ r h1 v3 l1 (r.1 + h.length)).bind fun h2 =>
      zev r i_X5_init 112 [some (.ref x), some (.int (l1 + (1 : Int32)))] [] h2
    else
      zev r i_X5_init 142 [some (.ref x), some (.int (0 : Int32))] [] h) := zblk r [112, 142, 172] 108 _ _ _ _ _
set_option maxRecDepth 100000 in
theorem E_X5_init_142 (r : zE) (h : zH) (x : Nat) (l1 : Int32) : zev r i_X5_init 142 [some (.ref x), some (.int l1)] [] h =
    ((zgR r h x 5 1).bind fun v1 =>
    (zaN r h v1).bind fun n2 =>
    if l1 < (Int32.ofNat n2) then
      (zgR r h x 5 1).bind fun v3 =>
      zcV (zev r i_X4_init 0 [some (.ref (r.1 + h.length))] [] (h ++ [.inr (.inr (4, [.null, .int 0]))] : zH)) fun h1 =>
      (zsQ r h1 v3 l1 (r.1 + h.length)).bind fun h2 =>
      zev r i_X5_init 142 [some (.ref x), some (.int (l1 + (1 : Int32)))] [] h2
    else
      zev r i_X5_init 172 [some (.ref x), some (.int (0 : Int32))] [] h) := zblk r [112, 142, 172] 108 _ _ _ _ _
set_option maxRecDepth 100000 in
theorem E_X5_init_172 (r : zE) (h : zH) (x : Nat) (l1 : Int32) : zev r i_X5_init 172 [some (.ref x), some (.int l1)] [] h =
    ((zgR r h x 5 6).bind fun v1 =>
    (zaN r h v1).bind fun n2 =>
    if l1 < (Int32.ofNat n2) then
      (zgR r h x 5 6).bind fun v3 =>
      zcV (zev r i_X2_init 0 [some (.ref (r.1 + h.length)), some (.int (-1 : Int32))] [] (h ++ [.inr (.inr (2, [.null, .int 0]))] : zH)) fun h1 =>
      (zsQ r h1 v3 l1 (r.1 + h.length)).bind fun h2 =>
      zev r i_X5_init 172 [some (.ref x), some (.int (l1 + (1 : Int32)))] [] h2
    else
      some (none, h)) := zblk r [112, 142, 172] 108 _ _ _ _ _
set_option maxRecDepth 100000 in
theorem E_X5_row_0 (r : zE) (h : zH) (x : Nat) (i1 : Int32) (i2 : Int32) : zev r i_X5_row 0 [some (.ref x), some (.int i1), some (.int i2)] [] h =
    (if zob r h x 5 = true then
    (zcQ (zev r i_X5_rowAt 0 [some (.ref x), some (.int i1)] [] h) fun v1 h1 => match v1 with
    | none => if zob r h1 x 5 = true then
      (zcI (zev r i_X5_renewed 0 [some (.ref x), some (.null), some (.int i2), some (.int (40 : Int32)), some (.int (0 : Int32))] [] h1) fun v3 h2 =>
      some (some (.int v3), h2))
      else none
    | some a2 => if zob r h1 x 5 = true then
      (zcI (zev r i_X5_renewed 0 [some (.ref x), some (.ref a2), some (.int i2), some (.int (40 : Int32)), some (.int (0 : Int32))] [] h1) fun v4 h3 =>
      some (some (.int v4), h3))
      else none)
    else none) := zblk r [] 12 _ _ _ _ _
set_option maxRecDepth 100000 in
theorem E_X5_lay_0 (r : zE) (h : zH) (x : Nat) (i1 : Int32) (i2 : Int32) (i3 : Int32) : zev r i_X5_lay 0 [some (.ref x), some (.int i1), some (.int i2), some (.int i3), none] [] h =
    (if zob r h x 5 = true then
    (zcQ (zev r i_X5_rowAt 0 [some (.ref x), some (.int i1)] [] h) fun v1 h1 => match v1 with
    | none => some (some (.int (-1 : Int32)), h1)
    | some a2 => if zob r h1 a2 4 = true then
      (zcI (zev r i_X4_isMissing 0 [some (.ref a2)] [] h1) fun v3 h2 =>
      if v3 = 0 then
        if zob r h2 a2 4 = true then
        (zcI (zev r i_X4_has 0 [some (.ref a2), some (.int i2)] [] h2) fun v4 h3 =>
        if v4 = 0 then
          if zob r h3 x 5 = true then
          (zcI (zev r i_X5_found 0 [some (.ref x), some (.int (2 : Int32))] [] h3) fun v5 h4 =>
          some (some (.int v5), h4))
          else none
        else
          if zob r h3 a2 4 = true then
          (zcI (zev r i_X4_get 0 [some (.ref a2), some (.int i2)] [] h3) fun v6 h5 =>
          if zob r h5 x 5 = true then
          (zcV (zev r i_X5_tell 0 [some (.ref x), some (.int v6)] [] h5) fun h6 =>
          if zob r h6 a2 4 = true then
          (zcV (zev r i_X4_set 0 [some (.ref a2), some (.int i2), some (.int i3)] [] h6) fun h7 =>
          some (some (.int (1 : Int32)), h7))
          else none)
          else none)
          else none)
        else none
      else
        if zob r h2 x 5 = true then
        (zcI (zev r i_X5_found 0 [some (.ref x), some (.int (1 : Int32))] [] h2) fun v7 h8 =>
        some (some (.int v7), h8))
        else none)
      else none)
    else none) := zblk r [] 37 _ _ _ _ _
set_option maxRecDepth 100000 in
theorem E_X5_at_0 (r : zE) (h : zH) (x : Nat) (i1 : Int32) (i2 : Int32) : zev r i_X5_at 0 [some (.ref x), some (.int i1), some (.int i2), none] [] h =
    (if zob r h x 5 = true then
    (zcQ (zev r i_X5_rowAt 0 [some (.ref x), some (.int i1)] [] h) fun v1 h1 => match v1 with
    | none => some (some (.int (-1 : Int32)), h1)
    | some a2 => if zob r h1 a2 4 = true then
      (zcI (zev r i_X4_isMissing 0 [some (.ref a2)] [] h1) fun v3 h2 =>
      if v3 = 0 then
        if zob r h2 a2 4 = true then
        (zcI (zev r i_X4_has 0 [some (.ref a2), some (.int i2)] [] h2) fun v4 h3 =>
        if v4 = 0 then
          if zob r h3 x 5 = true then
          (zcI (zev r i_X5_found 0 [some (.ref x), some (.int (2 : Int32))] [] h3) fun v5 h4 =>
          some (some (.int v5), h4))
          else none
        else
          if zob r h3 a2 4 = true then
          (zcI (zev r i_X4_get 0 [some (.ref a2), some (.int i2)] [] h3) fun v6 h5 =>
          if zob r h5 x 5 = true then
          (zcV (zev r i_X5_tell 0 [some (.ref x), some (.int v6)] [] h5) fun h6 =>
          some (some (.int (1 : Int32)), h6))
          else none)
          else none)
        else none
      else
        if zob r h2 x 5 = true then
        (zcI (zev r i_X5_found 0 [some (.ref x), some (.int (1 : Int32))] [] h2) fun v7 h7 =>
        some (some (.int v7), h7))
        else none)
      else none)
    else none) := zblk r [] 33 _ _ _ _ _
set_option maxRecDepth 100000 in
theorem E_X5_tear_0 (r : zE) (h : zH) (x : Nat) (i1 : Int32) : zev r i_X5_tear 0 [some (.ref x), some (.int i1), none] [] h =
    (if zob r h x 5 = true then
    (zcQ (zev r i_X5_rowAt 0 [some (.ref x), some (.int i1)] [] h) fun v1 h1 => match v1 with
    | none => some (some (.int (-1 : Int32)), h1)
    | some a2 => if zob r h1 a2 4 = true then
      (zcI (zev r i_X4_isMissing 0 [some (.ref a2)] [] h1) fun v3 h2 =>
      if v3 = 0 then
        if zob r h2 a2 4 = true then
        (zcV (zev r i_X4_discard 0 [some (.ref a2)] [] h2) fun h3 =>
        some (some (.int (1 : Int32)), h3))
        else none
      else
        if zob r h2 x 5 = true then
        (zcI (zev r i_X5_found 0 [some (.ref x), some (.int (1 : Int32))] [] h2) fun v4 h4 =>
        some (some (.int v4), h4))
        else none)
      else none)
    else none) := zblk r [] 22 _ _ _ _ _
set_option maxRecDepth 100000 in
theorem E_X5_text_0 (r : zE) (h : zH) (x : Nat) (i1 : Int32) (i2 : Int32) : zev r i_X5_text 0 [some (.ref x), some (.int i1), some (.int i2)] [] h =
    (if zob r h x 5 = true then
    (zcQ (zev r i_X5_textAt 0 [some (.ref x), some (.int i1)] [] h) fun v1 h1 => match v1 with
    | none => if zob r h1 x 5 = true then
      (zcI (zev r i_X5_renewed 0 [some (.ref x), some (.null), some (.int i2), some (.int (60 : Int32)), some (.int (32 : Int32))] [] h1) fun v3 h2 =>
      some (some (.int v3), h2))
      else none
    | some a2 => if zob r h1 x 5 = true then
      (zcI (zev r i_X5_renewed 0 [some (.ref x), some (.ref a2), some (.int i2), some (.int (60 : Int32)), some (.int (32 : Int32))] [] h1) fun v4 h3 =>
      some (some (.int v4), h3))
      else none)
    else none) := zblk r [] 12 _ _ _ _ _
set_option maxRecDepth 100000 in
theorem E_X5_put_0 (r : zE) (h : zH) (x : Nat) (i1 : Int32) (i2 : Int32) (i3 : Int32) : zev r i_X5_put 0 [some (.ref x), some (.int i1), some (.int i2), some (.int i3), none, none] [] h =
    (if zob r h x 5 = true then
    (zcQ (zev r i_X5_textAt 0 [some (.ref x), some (.int i1)] [] h) fun v1 h1 => match v1 with
    | none => some (some (.int (-1 : Int32)), h1)
    | some a2 => if zob r h1 a2 4 = true then
      (zcI (zev r i_X4_isMissing 0 [some (.ref a2)] [] h1) fun v3 h2 =>
      if v3 = 0 then
        if zob r h2 a2 4 = true then
        (zcI (zev r i_X4_has 0 [some (.ref a2), some (.int i2)] [] h2) fun v4 h3 =>
        if v4 = 0 then
          if zob r h3 x 5 = true then
          (zcI (zev r i_X5_found 0 [some (.ref x), some (.int (2 : Int32))] [] h3) fun v5 h4 =>
          some (some (.int v5), h4))
          else none
        else
          if zob r h3 a2 4 = true then
          (zcI (zev r i_X4_get 0 [some (.ref a2), some (.int i2)] [] h3) fun v6 h5 =>
          if zob r h5 a2 4 = true then
          (zcV (zev r i_X4_set 0 [some (.ref a2), some (.int i2), some (.int i3.toInt8.toInt32)] [] h5) fun h6 =>
          some (some (.int (v6 + (1000 : Int32))), h6))
          else none)
          else none)
        else none
      else
        if zob r h2 x 5 = true then
        (zcI (zev r i_X5_found 0 [some (.ref x), some (.int (1 : Int32))] [] h2) fun v7 h7 =>
        some (some (.int v7), h7))
        else none)
      else none)
    else none) := zblk r [] 39 _ _ _ _ _
set_option maxRecDepth 100000 in
theorem E_X5_fault_0 (r : zE) (h : zH) (x : Nat) (i1 : Int32) : zev r i_X5_fault 0 [some (.ref x), some (.int i1), none] [] h =
    (if zob r h x 5 = true then
    (zcQ (zev r i_X5_textAt 0 [some (.ref x), some (.int i1)] [] h) fun v1 h1 => match v1 with
    | none => some (some (.int (-1 : Int32)), h1)
    | some a2 => if zob r h1 a2 4 = true then
      (zcI (zev r i_X4_isMissing 0 [some (.ref a2)] [] h1) fun v3 h2 =>
      if v3 = 0 then
        zcV (zev r i_X1_init 0 [some (.ref (r.1 + (h2 ++ [.inr (.inr (3, [.null, .null, .int 0]))] : zH).length))] [] (h2 ++ [.inr (.inr (3, [.null, .null, .int 0]))] ++ [.inr (.inr (1, [.int 0, .int 0, .null, .null, .null, .null, .null]))] : zH)) fun h3 =>
        zcV (zev r i_X3_init 0 [some (.ref (r.1 + h2.length)), some (.ref a2), some (.ref (r.1 + (h2 ++ [.inr (.inr (3, [.null, .null, .int 0]))] : zH).length))] [] h3) fun h4 =>
        if zob r h4 (r.1 + h2.length) 3 = true then
        (zcI (zev r i_X3_read 0 [some (.ref (r.1 + h2.length)), none, none] [] h4) fun v4 h5 =>
        some (some (.int v4), h5))
        else none
      else
        if zob r h2 x 5 = true then
        (zcI (zev r i_X5_found 0 [some (.ref x), some (.int (1 : Int32))] [] h2) fun v5 h6 =>
        some (some (.int v5), h6))
        else none)
      else none)
    else none) := zblk r [] 27 _ _ _ _ _
set_option maxRecDepth 100000 in
theorem E_X5_deck_0 (r : zE) (h : zH) (x : Nat) (i1 : Int32) : zev r i_X5_deck 0 [some (.ref x), some (.int i1), none, none, none] [] h =
    (if zob r h x 5 = true then
    (zcQ (zev r i_X5_textAt 0 [some (.ref x), some (.int i1)] [] h) fun v1 h1 => match v1 with
    | none => some (some (.int (-1 : Int32)), h1)
    | some a2 => if zob r h1 a2 4 = true then
      (zcI (zev r i_X4_isMissing 0 [some (.ref a2)] [] h1) fun v3 h2 =>
      if v3 = 0 then
        zcV (zev r i_X1_init 0 [some (.ref (r.1 + h2.length))] [] (h2 ++ [.inr (.inr (1, [.int 0, .int 0, .null, .null, .null, .null, .null]))] : zH)) fun h3 =>
        zcV (zev r i_X3_init 0 [some (.ref (r.1 + h3.length)), some (.ref a2), some (.ref (r.1 + h2.length))] [] (h3 ++ [.inr (.inr (3, [.null, .null, .int 0]))] : zH)) fun h4 =>
        if zob r h4 (r.1 + h3.length) 3 = true then
        (zcI (zev r i_X3_read 0 [some (.ref (r.1 + h3.length)), none, none] [] h4) fun v4 h5 =>
        if v4 = (-9 : Int32) then
          (zpF r h5 x 5 2 (.ref (r.1 + h2.length))).bind fun h6 =>
          (zgR r h6 x 5 3).bind fun v5 =>
          if zob r h6 v5 0 = true then
          (zcV (zev r i_X0_begin 0 [some (.ref v5), some (.ref (r.1 + h2.length))] [] h6) fun h7 =>
          (zgR r h7 x 5 5).bind fun v6 =>
          (zgR r h7 x 5 3).bind fun v7 =>
          if zob r h7 v6 2 = true then
          (zcV (zev r i_X2_begin 0 [some (.ref v6), some (.ref v7)] [] h7) fun h8 =>
          zev r i_X5_deck 80 [some (.ref x), some (.int i1), some (.ref a2), some (.ref (r.1 + h2.length)), some (.int (0 : Int32))] [] h8)
          else none)
          else none
        else
          some (some (.int (-4 : Int32)), h5))
        else none
      else
        if zob r h2 x 5 = true then
        (zcI (zev r i_X5_found 0 [some (.ref x), some (.int (1 : Int32))] [] h2) fun v8 h9 =>
        some (some (.int v8), h9))
        else none)
      else none)
    else none) := zblk r [80] 61 _ _ _ _ _
set_option maxRecDepth 100000 in
theorem E_X5_deck_80 (r : zE) (h : zH) (x : Nat) (l1 : Int32) (l2 : Nat) (l3 : Nat) (l4 : Int32) : zev r i_X5_deck 80 [some (.ref x), some (.int l1), some (.ref l2), some (.ref l3), some (.int l4)] [] h =
    ((zgR r h x 5 6).bind fun v1 =>
    (zaN r h v1).bind fun n2 =>
    if l4 < (Int32.ofNat n2) then
      (zgR r h x 5 6).bind fun v3 =>
      (zaQ r h v3 l4).bind fun v4 => match v4 with
      | none => none
      | some a5 => if zob r h a5 2 = true then
        (zcV (zev r i_X2_discard 0 [some (.ref a5)] [] h) fun h1 =>
        zev r i_X5_deck 80 [some (.ref x), some (.int l1), some (.ref l2), some (.ref l3), some (.int (l4 + (1 : Int32)))] [] h1)
        else none
    else
      (zgI r h l3 1 1).bind fun v6 =>
      some (some (.int v6), h)) := zblk r [80] 61 _ _ _ _ _
set_option maxRecDepth 100000 in
theorem E_X5_man_0 (r : zE) (h : zH) (x : Nat) (i1 : Int32) (i2 : Int32) : zev r i_X5_man 0 [some (.ref x), some (.int i1), some (.int i2)] [] h =
    ((zgR r h x 5 2).bind fun v1 =>
    if zob r h v1 1 = true then
    (zcI (zev r i_X1_hasMan 0 [some (.ref v1), some (.int i1)] [] h) fun v2 h1 =>
    if v2 = 0 then
      some (some (.int (-1 : Int32)), h1)
    else
      if i2 < 0 then
        some (some (.int (-1 : Int32)), h1)
      else
        if i2 < (6 : Int32) then
          (zgR r h1 x 5 3).bind fun v3 =>
          if zob r h1 v3 0 = true then
          (zcI (zev r i_X0_manDetail 0 [some (.ref v3), some (.int i1), some (.int i2)] [] h1) fun v4 h2 =>
          if zob r h2 x 5 = true then
          (zcV (zev r i_X5_tell 0 [some (.ref x), some (.int v4)] [] h2) fun h3 =>
          some (some (.int (1 : Int32)), h3))
          else none)
          else none
        else
          some (some (.int (-1 : Int32)), h1))
    else none) := zblk r [] 24 _ _ _ _ _
set_option maxRecDepth 100000 in
theorem E_X5_hook_0 (r : zE) (h : zH) (x : Nat) (i1 : Int32) (i2 : Int32) : zev r i_X5_hook 0 [some (.ref x), some (.int i1), some (.int i2)] [] h =
    ((zgR r h x 5 2).bind fun v1 =>
    if zob r h v1 1 = true then
    (zcI (zev r i_X1_hasHook 0 [some (.ref v1), some (.int i1)] [] h) fun v2 h1 =>
    if v2 = 0 then
      some (some (.int (-1 : Int32)), h1)
    else
      if i2 < 0 then
        some (some (.int (-1 : Int32)), h1)
      else
        if i2 < (2 : Int32) then
          (zgR r h1 x 5 3).bind fun v3 =>
          if zob r h1 v3 0 = true then
          (zcI (zev r i_X0_hookDetail 0 [some (.ref v3), some (.int i1), some (.int i2)] [] h1) fun v4 h2 =>
          if zob r h2 x 5 = true then
          (zcV (zev r i_X5_tell 0 [some (.ref x), some (.int v4)] [] h2) fun h3 =>
          some (some (.int (1 : Int32)), h3))
          else none)
          else none
        else
          some (some (.int (-1 : Int32)), h1))
    else none) := zblk r [] 24 _ _ _ _ _
set_option maxRecDepth 100000 in
theorem E_X5_hang_0 (r : zE) (h : zH) (x : Nat) (i1 : Int32) (i2 : Int32) : zev r i_X5_hang 0 [some (.ref x), some (.int i1), some (.int i2)] [] h =
    ((zgR r h x 5 2).bind fun v1 =>
    if zob r h v1 1 = true then
    (zcI (zev r i_X1_hasMan 0 [some (.ref v1), some (.int i1)] [] h) fun v2 h1 =>
    if v2 = 0 then
      some (some (.int (-1 : Int32)), h1)
    else
      (zgR r h1 x 5 2).bind fun v3 =>
      if zob r h1 v3 1 = true then
      (zcI (zev r i_X1_hasHook 0 [some (.ref v3), some (.int i2)] [] h1) fun v4 h2 =>
      if v4 = 0 then
        some (some (.int (-1 : Int32)), h2)
      else
        (zgR r h2 x 5 3).bind fun v5 =>
        if zob r h2 v5 0 = true then
        (zcI (zev r i_X0_isFree 0 [some (.ref v5), some (.int i2)] [] h2) fun v6 h3 =>
        if v6 = 0 then
          some (some (.int (-4 : Int32)), h3)
        else
          (zgR r h3 x 5 5).bind fun v7 =>
          if zob r h3 v7 2 = true then
          (zcI (zev r i_X2_hasRoomFor 0 [some (.ref v7), some (.int (1 : Int32))] [] h3) fun v8 h4 =>
          if v8 = 0 then
            some (some (.int (-2 : Int32)), h4)
          else
            (zgR r h4 x 5 3).bind fun v9 =>
            if zob r h4 v9 0 = true then
            (zcV (zev r i_X0_move 0 [some (.ref v9), some (.int i1), some (.int i2)] [] h4) fun h5 =>
            (zgR r h5 x 5 5).bind fun v10 =>
            (zgR r h5 x 5 3).bind fun v11 =>
            if zob r h5 v10 2 = true then
            (zcV (zev r i_X2_add 0 [some (.ref v10), some (.ref v11)] [] h5) fun h6 =>
            some (some (.int i2), h6))
            else none)
            else none)
          else none)
        else none)
      else none)
    else none) := zblk r [] 41 _ _ _ _ _
set_option maxRecDepth 100000 in
theorem E_X5_down_0 (r : zE) (h : zH) (x : Nat) (i1 : Int32) : zev r i_X5_down 0 [some (.ref x), some (.int i1), none] [] h =
    ((zgR r h x 5 2).bind fun v1 =>
    if zob r h v1 1 = true then
    (zcI (zev r i_X1_hasMan 0 [some (.ref v1), some (.int i1)] [] h) fun v2 h1 =>
    if v2 = 0 then
      some (some (.int (-1 : Int32)), h1)
    else
      (zgR r h1 x 5 3).bind fun v3 =>
      if zob r h1 v3 0 = true then
      (zcI (zev r i_X0_hangs 0 [some (.ref v3), some (.int i1)] [] h1) fun v4 h2 =>
      if v4 = 0 then
        some (some (.int (-4 : Int32)), h2)
      else
        (zgR r h2 x 5 5).bind fun v5 =>
        if zob r h2 v5 2 = true then
        (zcI (zev r i_X2_hasRoomFor 0 [some (.ref v5), some (.int (1 : Int32))] [] h2) fun v6 h3 =>
        if v6 = 0 then
          some (some (.int (-2 : Int32)), h3)
        else
          (zgR r h3 x 5 3).bind fun v7 =>
          (zgR r h3 v7 0 1).bind fun v8 =>
          (zaI r h3 v8 i1).bind fun v9 =>
          (zgR r h3 x 5 3).bind fun v10 =>
          if zob r h3 v10 0 = true then
          (zcV (zev r i_X0_move 0 [some (.ref v10), some (.int i1), some (.int (-9 : Int32))] [] h3) fun h4 =>
          (zgR r h4 x 5 5).bind fun v11 =>
          (zgR r h4 x 5 3).bind fun v12 =>
          if zob r h4 v11 2 = true then
          (zcV (zev r i_X2_add 0 [some (.ref v11), some (.ref v12)] [] h4) fun h5 =>
          some (some (.int v9), h5))
          else none)
          else none)
        else none)
      else none)
    else none) := zblk r [] 42 _ _ _ _ _
set_option maxRecDepth 100000 in
theorem E_X5_change_0 (r : zE) (h : zH) (x : Nat) (i1 : Int32) (i2 : Int32) : zev r i_X5_change 0 [some (.ref x), some (.int i1), some (.int i2)] [] h =
    ((zgR r h x 5 2).bind fun v1 =>
    if zob r h v1 1 = true then
    (zcI (zev r i_X1_hasMan 0 [some (.ref v1), some (.int i1)] [] h) fun v2 h1 =>
    if v2 = 0 then
      some (some (.int (-1 : Int32)), h1)
    else
      (zgR r h1 x 5 2).bind fun v3 =>
      if zob r h1 v3 1 = true then
      (zcI (zev r i_X1_hasMan 0 [some (.ref v3), some (.int i2)] [] h1) fun v4 h2 =>
      if v4 = 0 then
        some (some (.int (-1 : Int32)), h2)
      else
        if i1 = i2 then
          some (some (.int (-1 : Int32)), h2)
        else
          (zgR r h2 x 5 3).bind fun v5 =>
          if zob r h2 v5 0 = true then
          (zcI (zev r i_X0_hangs 0 [some (.ref v5), some (.int i1)] [] h2) fun v6 h3 =>
          if v6 = 0 then
            (zgR r h3 x 5 3).bind fun v7 =>
            if zob r h3 v7 0 = true then
            (zcI (zev r i_X0_hangs 0 [some (.ref v7), some (.int i2)] [] h3) fun v8 h4 =>
            if v8 = 0 then
              some (some (.int (-4 : Int32)), h4)
            else
              zev r i_X5_change 54 [some (.ref x), some (.int i1), some (.int i2)] [] h4)
            else none
          else
            zev r i_X5_change 54 [some (.ref x), some (.int i1), some (.int i2)] [] h3)
          else none)
      else none)
    else none) := zblk r [54] 49 _ _ _ _ _
set_option maxRecDepth 100000 in
theorem E_X5_change_54 (r : zE) (h : zH) (x : Nat) (l1 : Int32) (l2 : Int32) : zev r i_X5_change 54 [some (.ref x), some (.int l1), some (.int l2)] [] h =
    ((zgR r h x 5 5).bind fun v1 =>
    if zob r h v1 2 = true then
    (zcI (zev r i_X2_hasRoomFor 0 [some (.ref v1), some (.int (1 : Int32))] [] h) fun v2 h1 =>
    if v2 = 0 then
      some (some (.int (-2 : Int32)), h1)
    else
      (zgR r h1 x 5 3).bind fun v3 =>
      if zob r h1 v3 0 = true then
      (zcV (zev r i_X0_swap 0 [some (.ref v3), some (.int l1), some (.int l2), none, none] [] h1) fun h2 =>
      (zgR r h2 x 5 5).bind fun v4 =>
      (zgR r h2 x 5 3).bind fun v5 =>
      if zob r h2 v4 2 = true then
      (zcV (zev r i_X2_add 0 [some (.ref v4), some (.ref v5)] [] h2) fun h3 =>
      some (some (.int (1 : Int32)), h3))
      else none)
      else none)
    else none) := zblk r [54] 49 _ _ _ _ _
set_option maxRecDepth 100000 in
theorem E_X5_line_0 (r : zE) (h : zH) (x : Nat) (i1 : Int32) (i2 : Int32) : zev r i_X5_line 0 [some (.ref x), some (.int i1), some (.int i2), none] [] h =
    ((zgR r h x 5 2).bind fun v1 =>
    if zob r h v1 1 = true then
    (zcI (zev r i_X1_hasMan 0 [some (.ref v1), some (.int i1)] [] h) fun v2 h1 =>
    if v2 = 0 then
      some (some (.int (-1 : Int32)), h1)
    else
      if i2 < (1 : Int32) then
        some (some (.int (-1 : Int32)), h1)
      else
        if (9 : Int32) < i2 then
          some (some (.int (-1 : Int32)), h1)
        else
          (zgR r h1 x 5 3).bind fun v3 =>
          (zgR r h1 v3 0 3).bind fun v4 =>
          (zaI r h1 v4 i1).bind fun v5 =>
          if v5 = i2 then
            some (some (.int (-4 : Int32)), h1)
          else
            (zgR r h1 x 5 5).bind fun v6 =>
            if zob r h1 v6 2 = true then
            (zcI (zev r i_X2_hasRoomFor 0 [some (.ref v6), some (.int (1 : Int32))] [] h1) fun v7 h2 =>
            if v7 = 0 then
              some (some (.int (-2 : Int32)), h2)
            else
              (zgR r h2 x 5 3).bind fun v8 =>
              (zgR r h2 v8 0 3).bind fun v9 =>
              (zsI r h2 v9 i1 i2).bind fun h3 =>
              (zgR r h3 x 5 5).bind fun v10 =>
              (zgR r h3 x 5 3).bind fun v11 =>
              if zob r h3 v10 2 = true then
              (zcV (zev r i_X2_add 0 [some (.ref v10), some (.ref v11)] [] h3) fun h4 =>
              some (some (.int v5), h4))
              else none)
            else none)
    else none) := zblk r [] 47 _ _ _ _ _
set_option maxRecDepth 100000 in
theorem E_X5_night_0 (r : zE) (h : zH) (x : Nat) (i1 : Int32) : zev r i_X5_night 0 [some (.ref x), some (.int i1)] [] h =
    (zcI (zev r i_X5_isWhen 0 [some (.int i1)] [] h) fun v1 h1 =>
    if v1 = 0 then
      some (some (.int (-1 : Int32)), h1)
    else
      (zgR r h1 x 5 2).bind fun v2 =>
      (zgI r h1 v2 1 1).bind fun v3 =>
      if v3 = 0 then
        some (some (.int (-4 : Int32)), h1)
      else
        (zgR r h1 x 5 5).bind fun v4 =>
        if zob r h1 v4 2 = true then
        (zcI (zev r i_X2_hasRoomFor 0 [some (.ref v4), some (.int (1 : Int32))] [] h1) fun v5 h2 =>
        if v5 = 0 then
          some (some (.int (-2 : Int32)), h2)
        else
          if zob r h2 x 5 = true then
          (zcI (zev r i_X5_sleptThrough 0 [some (.ref x), some (.int i1), none] [] h2) fun v6 h3 =>
          some (some (.int v6), h3))
          else none)
        else none) := zblk r [] 25 _ _ _ _ _
set_option maxRecDepth 100000 in
theorem E_X5_undo_0 (r : zE) (h : zH) (x : Nat) (i1 : Int32) : zev r i_X5_undo 0 [some (.ref x), some (.int i1), none] [] h =
    (if i1 < 0 then
      some (some (.int (-1 : Int32)), h)
    else
      (zgR r h x 5 5).bind fun v1 =>
      (zgI r h v1 2 1).bind fun v2 =>
      if v2 < i1 then
        some (some (.int (-1 : Int32)), h)
      else
        (zgR r h x 5 5).bind fun v3 =>
        (zgI r h v3 2 1).bind fun v4 =>
        (zgR r h x 5 5).bind fun v5 =>
        (zgR r h x 5 3).bind fun v6 =>
        if zob r h v5 2 = true then
        (zcV (zev r i_X2_goBackTo 0 [some (.ref v5), some (.int i1), some (.ref v6)] [] h) fun h1 =>
        some (some (.int (v4 - i1)), h1))
        else none) := zblk r [] 26 _ _ _ _ _
set_option maxRecDepth 100000 in
theorem E_X5_keep_0 (r : zE) (h : zH) (x : Nat) (i1 : Int32) : zev r i_X5_keep 0 [some (.ref x), some (.int i1)] [] h =
    (if zob r h x 5 = true then
    (zcI (zev r i_X5_isKeptPlace 0 [some (.ref x), some (.int i1)] [] h) fun v1 h1 =>
    if v1 = 0 then
      some (some (.int (-1 : Int32)), h1)
    else
      (zgR r h1 x 5 2).bind fun v2 =>
      (zgI r h1 v2 1 1).bind fun v3 =>
      if v3 = 0 then
        some (some (.int (-4 : Int32)), h1)
      else
        (zgR r h1 x 5 6).bind fun v4 =>
        (zaQ r h1 v4 i1).bind fun v5 => match v5 with
        | none => (zgR r h1 x 5 5).bind fun v7 =>
          none
        | some a6 => (zgR r h1 x 5 5).bind fun v8 =>
          if zob r h1 a6 2 = true then
          (zcV (zev r i_X2_copyFrom 0 [some (.ref a6), some (.ref v8)] [] h1) fun h2 =>
          (zgR r h2 x 5 5).bind fun v9 =>
          (zgI r h2 v9 2 1).bind fun v10 =>
          some (some (.int v10), h2))
          else none)
    else none) := zblk r [] 26 _ _ _ _ _
set_option maxRecDepth 100000 in
theorem E_X5_on_0 (r : zE) (h : zH) (x : Nat) (i1 : Int32) : zev r i_X5_on 0 [some (.ref x), some (.int i1)] [] h =
    (if zob r h x 5 = true then
    (zcI (zev r i_X5_isKeptPlace 0 [some (.ref x), some (.int i1)] [] h) fun v1 h1 =>
    if v1 = 0 then
      some (some (.int (-1 : Int32)), h1)
    else
      (zgR r h1 x 5 6).bind fun v2 =>
      (zaQ r h1 v2 i1).bind fun v3 => match v3 with
      | none => none
      | some a4 => if zob r h1 a4 2 = true then
        (zcI (zev r i_X2_isMissing 0 [some (.ref a4)] [] h1) fun v5 h2 =>
        if v5 = 0 then
          (zgR r h2 x 5 5).bind fun v6 =>
          (zgR r h2 x 5 6).bind fun v7 =>
          (zaQ r h2 v7 i1).bind fun v8 => match v8 with
          | none => if zob r h2 v6 2 = true then
            (zcV (zev r i_X2_copyFrom 0 [some (.ref v6), some (.null)] [] h2) fun h3 =>
            (zgR r h3 x 5 5).bind fun v10 =>
            (zgR r h3 x 5 5).bind fun v11 =>
            (zgI r h3 v11 2 1).bind fun v12 =>
            (zgR r h3 x 5 3).bind fun v13 =>
            if zob r h3 v10 2 = true then
            (zcV (zev r i_X2_goBackTo 0 [some (.ref v10), some (.int v12), some (.ref v13)] [] h3) fun h4 =>
            (zgR r h4 x 5 5).bind fun v14 =>
            (zgI r h4 v14 2 1).bind fun v15 =>
            some (some (.int v15), h4))
            else none)
            else none
          | some a9 => if zob r h2 v6 2 = true then
            (zcV (zev r i_X2_copyFrom 0 [some (.ref v6), some (.ref a9)] [] h2) fun h5 =>
            (zgR r h5 x 5 5).bind fun v16 =>
            (zgR r h5 x 5 5).bind fun v17 =>
            (zgI r h5 v17 2 1).bind fun v18 =>
            (zgR r h5 x 5 3).bind fun v19 =>
            if zob r h5 v16 2 = true then
            (zcV (zev r i_X2_goBackTo 0 [some (.ref v16), some (.int v18), some (.ref v19)] [] h5) fun h6 =>
            (zgR r h6 x 5 5).bind fun v20 =>
            (zgI r h6 v20 2 1).bind fun v21 =>
            some (some (.int v21), h6))
            else none)
            else none
        else
          if zob r h2 x 5 = true then
          (zcI (zev r i_X5_found 0 [some (.ref x), some (.int (1 : Int32))] [] h2) fun v22 h7 =>
          some (some (.int v22), h7))
          else none)
        else none)
    else none) := zblk r [] 38 _ _ _ _ _
set_option maxRecDepth 100000 in
theorem E_X5_neighbours_0 (r : zE) (h : zH) (x : Nat) (i1 : Int32) (i2 : Int32) : zev r i_X5_neighbours 0 [some (.ref x), some (.int i1), some (.int i2)] [] h =
    ((zgR r h x 5 2).bind fun v1 =>
    if zob r h v1 1 = true then
    (zcI (zev r i_X1_hasMan 0 [some (.ref v1), some (.int i1)] [] h) fun v2 h1 =>
    if v2 = 0 then
      some (some (.int (-1 : Int32)), h1)
    else
      zcI (zev r i_X5_isWhen 0 [some (.int i2)] [] h1) fun v3 h2 =>
      if v3 = 0 then
        some (some (.int (-1 : Int32)), h2)
      else
        (zgR r h2 x 5 3).bind fun v4 =>
        if zob r h2 v4 0 = true then
        (zcI (zev r i_X0_neighbourBits 0 [some (.ref v4), some (.int i1), some (.int i2)] [] h2) fun v5 h3 =>
        some (some (.int v5), h3))
        else none)
    else none) := zblk r [] 19 _ _ _ _ _
set_option maxRecDepth 100000 in
theorem E_X5_woken_0 (r : zE) (h : zH) (x : Nat) (i1 : Int32) (i2 : Int32) : zev r i_X5_woken 0 [some (.ref x), some (.int i1), some (.int i2)] [] h =
    ((zgR r h x 5 2).bind fun v1 =>
    if zob r h v1 1 = true then
    (zcI (zev r i_X1_hasMan 0 [some (.ref v1), some (.int i1)] [] h) fun v2 h1 =>
    if v2 = 0 then
      some (some (.int (-1 : Int32)), h1)
    else
      zcI (zev r i_X5_isWhen 0 [some (.int i2)] [] h1) fun v3 h2 =>
      if v3 = 0 then
        some (some (.int (-1 : Int32)), h2)
      else
        (zgR r h2 x 5 3).bind fun v4 =>
        if zob r h2 v4 0 = true then
        (zcI (zev r i_X0_wakings 0 [some (.ref v4), some (.int i1), some (.int i2), none, none] [] h2) fun v5 h3 =>
        some (some (.int v5), h3))
        else none)
    else none) := zblk r [] 19 _ _ _ _ _
set_option maxRecDepth 100000 in
theorem E_X5_all_0 (r : zE) (h : zH) (x : Nat) (i1 : Int32) : zev r i_X5_all 0 [some (.ref x), some (.int i1)] [] h =
    (zcI (zev r i_X5_isWhen 0 [some (.int i1)] [] h) fun v1 h1 =>
    if v1 = 0 then
      some (some (.int (-1 : Int32)), h1)
    else
      (zgR r h1 x 5 3).bind fun v2 =>
      if zob r h1 v2 0 = true then
      (zcI (zev r i_X0_howManyIn 0 [some (.ref v2), some (.int i1), none, none] [] h1) fun v3 h2 =>
      if zob r h2 x 5 = true then
      (zcV (zev r i_X5_tell 0 [some (.ref x), some (.int v3)] [] h2) fun h3 =>
      (zgR r h3 x 5 3).bind fun v4 =>
      if zob r h3 v4 0 = true then
      (zcI (zev r i_X0_allWakings 0 [some (.ref v4), some (.int i1), none, none] [] h3) fun v5 h4 =>
      some (some (.int v5), h4))
      else none)
      else none)
      else none) := zblk r [] 19 _ _ _ _ _
set_option maxRecDepth 100000 in
theorem E_X5_worst_0 (r : zE) (h : zH) (x : Nat) (i1 : Int32) : zev r i_X5_worst 0 [some (.ref x), some (.int i1), none, none, none, none] [] h =
    (zcI (zev r i_X5_isWhen 0 [some (.int i1)] [] h) fun v1 h1 =>
    if v1 = 0 then
      some (some (.int (-1 : Int32)), h1)
    else
      zev r i_X5_worst 17 [some (.ref x), some (.int i1), some (.int (-9 : Int32)), some (.int (-1 : Int32)), some (.int (0 : Int32)), none] [] h1) := zblk r [17] 48 _ _ _ _ _
set_option maxRecDepth 100000 in
theorem E_X5_worst_17 (r : zE) (h : zH) (x : Nat) (l1 : Int32) (l2 : Int32) (l3 : Int32) (l4 : Int32) : zev r i_X5_worst 17 [some (.ref x), some (.int l1), some (.int l2), some (.int l3), some (.int l4), none] [] h =
    ((zgR r h x 5 2).bind fun v1 =>
    (zgI r h v1 1 1).bind fun v2 =>
    if l4 < v2 then
      (zgR r h x 5 3).bind fun v3 =>
      if zob r h v3 0 = true then
      (zcI (zev r i_X0_wakings 0 [some (.ref v3), some (.int l4), some (.int l1), none, none] [] h) fun v4 h1 =>
      (zgR r h1 x 5 3).bind fun v5 =>
      if zob r h1 v5 0 = true then
      (zcI (zev r i_X0_isIn 0 [some (.ref v5), some (.int l4), some (.int l1)] [] h1) fun v6 h2 =>
      if v6 = 0 then
        zev r i_X5_worst 17 [some (.ref x), some (.int l1), some (.int l2), some (.int l3), some (.int (l4 + (1 : Int32))), none] [] h2
      else
        if l3 < v4 then
          zev r i_X5_worst 17 [some (.ref x), some (.int l1), some (.int l4), some (.int v4), some (.int (l4 + (1 : Int32))), none] [] h2
        else
          zev r i_X5_worst 17 [some (.ref x), some (.int l1), some (.int l2), some (.int l3), some (.int (l4 + (1 : Int32))), none] [] h2)
      else none)
      else none
    else
      if l2 = (-9 : Int32) then
        some (some (.int l2), h)
      else
        if zob r h x 5 = true then
        (zcV (zev r i_X5_tell 0 [some (.ref x), some (.int l3)] [] h) fun h3 =>
        some (some (.int l2), h3))
        else none) := zblk r [17] 48 _ _ _ _ _
set_option maxRecDepth 100000 in
theorem E_X5_by_0 (r : zE) (h : zH) (x : Nat) (i1 : Int32) (i2 : Int32) : zev r i_X5_by 0 [some (.ref x), some (.int i1), some (.int i2), none, none, none, none, none] [] h =
    ((zgR r h x 5 2).bind fun v1 =>
    if zob r h v1 1 = true then
    (zcI (zev r i_X1_hasMan 0 [some (.ref v1), some (.int i1)] [] h) fun v2 h1 =>
    if v2 = 0 then
      some (some (.int (-1 : Int32)), h1)
    else
      zcI (zev r i_X5_isWhen 0 [some (.int i2)] [] h1) fun v3 h2 =>
      if v3 = 0 then
        some (some (.int (-1 : Int32)), h2)
      else
        (zgR r h2 x 5 3).bind fun v4 =>
        if zob r h2 v4 0 = true then
        (zcI (zev r i_X0_isIn 0 [some (.ref v4), some (.int i1), some (.int i2)] [] h2) fun v5 h3 =>
        if v5 = 0 then
          some (some (.int (-9 : Int32)), h3)
        else
          (zgR r h3 x 5 3).bind fun v6 =>
          if zob r h3 v6 0 = true then
          (zcI (zev r i_X0_neighbourBits 0 [some (.ref v6), some (.int i1), some (.int i2)] [] h3) fun v7 h4 =>
          zev r i_X5_by 55 [some (.ref x), some (.int i1), some (.int i2), some (.int v7), some (.int (-9 : Int32)), some (.int (-1 : Int32)), some (.int (0 : Int32)), none] [] h4)
          else none)
        else none)
    else none) := zblk r [55] 74 _ _ _ _ _
set_option maxRecDepth 100000 in
theorem E_X5_by_55 (r : zE) (h : zH) (x : Nat) (l1 : Int32) (l2 : Int32) (l3 : Int32) (l4 : Int32) (l5 : Int32) (l6 : Int32) : zev r i_X5_by 55 [some (.ref x), some (.int l1), some (.int l2), some (.int l3), some (.int l4), some (.int l5), some (.int l6), none] [] h =
    ((zgR r h x 5 2).bind fun v1 =>
    (zgI r h v1 1 1).bind fun v2 =>
    if l6 < v2 then
      if (l3 &&& ((1 : Int32) <<< (l6 &&& 31))) = 0 then
        zev r i_X5_by 55 [some (.ref x), some (.int l1), some (.int l2), some (.int l3), some (.int l4), some (.int l5), some (.int (l6 + (1 : Int32))), none] [] h
      else
        (zgR r h x 5 3).bind fun v3 =>
        if zob r h v3 0 = true then
        (zcI (zev r i_X0_wakings 0 [some (.ref v3), some (.int l1), some (.int l2), none, none] [] h) fun v4 h1 =>
        if zob r h1 x 5 = true then
        (zcI (zev r i_X5_wakingsWithout 0 [some (.ref x), some (.int l6), some (.int l1), some (.int l2)] [] h1) fun v5 h2 =>
        if l5 < (v4 - v5) then
          zev r i_X5_by 55 [some (.ref x), some (.int l1), some (.int l2), some (.int l3), some (.int l6), some (.int (v4 - v5)), some (.int (l6 + (1 : Int32))), none] [] h2
        else
          zev r i_X5_by 55 [some (.ref x), some (.int l1), some (.int l2), some (.int l3), some (.int l4), some (.int l5), some (.int (l6 + (1 : Int32))), none] [] h2)
        else none)
        else none
    else
      if l4 = (-9 : Int32) then
        some (some (.int l4), h)
      else
        if zob r h x 5 = true then
        (zcV (zev r i_X5_tell 0 [some (.ref x), some (.int l5)] [] h) fun h3 =>
        some (some (.int l4), h3))
        else none) := zblk r [55] 74 _ _ _ _ _
set_option maxRecDepth 100000 in
theorem E_X5_best_0 (r : zE) (h : zH) (x : Nat) (i1 : Int32) (i2 : Int32) : zev r i_X5_best 0 [some (.ref x), some (.int i1), some (.int i2)] [] h =
    (zcI (zev r i_X5_isWhen 0 [some (.int i1)] [] h) fun v1 h1 =>
    if v1 = 0 then
      some (some (.int (-1 : Int32)), h1)
    else
      if zob r h1 x 5 = true then
      (zcQ (zev r i_X5_rowAt 0 [some (.ref x), some (.int i2)] [] h1) fun v2 h2 => match v2 with
      | none => if zob r h2 x 5 = true then
        (zcI (zev r i_X5_leastPlan 0 [some (.ref x), some (.int (0 : Int32)), some (.int i1), some (.null), none, none, none, none] [] h2) fun v4 h3 =>
        some (some (.int v4), h3))
        else none
      | some a3 => if zob r h2 x 5 = true then
        (zcI (zev r i_X5_leastPlan 0 [some (.ref x), some (.int (0 : Int32)), some (.int i1), some (.ref a3), none, none, none, none] [] h2) fun v5 h4 =>
        some (some (.int v5), h4))
        else none)
      else none) := zblk r [] 16 _ _ _ _ _
set_option maxRecDepth 100000 in
theorem E_X5_fair_0 (r : zE) (h : zH) (x : Nat) (i1 : Int32) (i2 : Int32) : zev r i_X5_fair 0 [some (.ref x), some (.int i1), some (.int i2)] [] h =
    (zcI (zev r i_X5_isWhen 0 [some (.int i1)] [] h) fun v1 h1 =>
    if v1 = 0 then
      some (some (.int (-1 : Int32)), h1)
    else
      if zob r h1 x 5 = true then
      (zcQ (zev r i_X5_rowAt 0 [some (.ref x), some (.int i2)] [] h1) fun v2 h2 => match v2 with
      | none => if zob r h2 x 5 = true then
        (zcI (zev r i_X5_leastPlan 0 [some (.ref x), some (.int (1 : Int32)), some (.int i1), some (.null), none, none, none, none] [] h2) fun v4 h3 =>
        some (some (.int v4), h3))
        else none
      | some a3 => if zob r h2 x 5 = true then
        (zcI (zev r i_X5_leastPlan 0 [some (.ref x), some (.int (1 : Int32)), some (.int i1), some (.ref a3), none, none, none, none] [] h2) fun v5 h4 =>
        some (some (.int v5), h4))
        else none)
      else none) := zblk r [] 16 _ _ _ _ _
set_option maxRecDepth 100000 in
theorem E_X5_mixed_0 (r : zE) (h : zH) (x : Nat) (i1 : Int32) : zev r i_X5_mixed 0 [some (.ref x), some (.int i1)] [] h =
    (if zob r h x 5 = true then
    (zcQ (zev r i_X5_rowAt 0 [some (.ref x), some (.int i1)] [] h) fun v1 h1 => match v1 with
    | none => if zob r h1 x 5 = true then
      (zcI (zev r i_X5_leastPlan 0 [some (.ref x), some (.int (2 : Int32)), some (.int (0 : Int32)), some (.null), none, none, none, none] [] h1) fun v3 h2 =>
      some (some (.int v3), h2))
      else none
    | some a2 => if zob r h1 x 5 = true then
      (zcI (zev r i_X5_leastPlan 0 [some (.ref x), some (.int (2 : Int32)), some (.int (0 : Int32)), some (.ref a2), none, none, none, none] [] h1) fun v4 h3 =>
      some (some (.int v4), h3))
      else none)
    else none) := zblk r [] 11 _ _ _ _ _
set_option maxRecDepth 100000 in
theorem E_X5_judge_0 (r : zE) (h : zH) (x : Nat) (i1 : Int32) (i2 : Int32) : zev r i_X5_judge 0 [some (.ref x), some (.int i1), some (.int i2), none] [] h =
    (if zob r h x 5 = true then
    (zcQ (zev r i_X5_rowAt 0 [some (.ref x), some (.int i1)] [] h) fun v1 h1 => match v1 with
    | none => some (some (.int (-1 : Int32)), h1)
    | some a2 => zcI (zev r i_X5_isWhen 0 [some (.int i2)] [] h1) fun v3 h2 =>
      if v3 = 0 then
        some (some (.int (-1 : Int32)), h2)
      else
        (zgR r h2 x 5 2).bind fun v4 =>
        (zgI r h2 v4 1 1).bind fun v5 =>
        if v5 = 0 then
          some (some (.int (-4 : Int32)), h2)
        else
          if zob r h2 a2 4 = true then
          (zcI (zev r i_X4_isMissing 0 [some (.ref a2)] [] h2) fun v6 h3 =>
          if v6 = 0 then
            (zgI r h3 a2 4 1).bind fun v7 =>
            (zgR r h3 x 5 2).bind fun v8 =>
            (zgI r h3 v8 1 1).bind fun v9 =>
            if v7 = v9 then
              (zgR r h3 x 5 4).bind fun v10 =>
              (zgR r h3 x 5 3).bind fun v11 =>
              if zob r h3 v10 0 = true then
              (zcV (zev r i_X0_copyFrom 0 [some (.ref v10), some (.ref v11)] [] h3) fun h4 =>
              (zgR r h4 x 5 4).bind fun v12 =>
              if zob r h4 v12 0 = true then
              (zcI (zev r i_X0_hangBy 0 [some (.ref v12), some (.ref a2), none, none] [] h4) fun v13 h5 =>
              if v13 = 0 then
                if zob r h5 x 5 = true then
                (zcI (zev r i_X5_found 0 [some (.ref x), some (.int (3 : Int32))] [] h5) fun v14 h6 =>
                some (some (.int v14), h6))
                else none
              else
                (zgR r h5 x 5 4).bind fun v15 =>
                if zob r h5 v15 0 = true then
                (zcI (zev r i_X0_allWakings 0 [some (.ref v15), some (.int i2), none, none] [] h5) fun v16 h7 =>
                some (some (.int v16), h7))
                else none)
              else none)
              else none
            else
              if zob r h3 x 5 = true then
              (zcI (zev r i_X5_found 0 [some (.ref x), some (.int (5 : Int32))] [] h3) fun v17 h8 =>
              some (some (.int v17), h8))
              else none
          else
            if zob r h3 x 5 = true then
            (zcI (zev r i_X5_found 0 [some (.ref x), some (.int (1 : Int32))] [] h3) fun v18 h9 =>
            some (some (.int v18), h9))
            else none)
          else none)
    else none) := zblk r [] 56 _ _ _ _ _
set_option maxRecDepth 100000 in
theorem E_X5_gain_0 (r : zE) (h : zH) (x : Nat) (i1 : Int32) (i2 : Int32) (i3 : Int32) : zev r i_X5_gain 0 [some (.ref x), some (.int i1), some (.int i2), some (.int i3)] [] h =
    ((zgR r h x 5 2).bind fun v1 =>
    if zob r h v1 1 = true then
    (zcI (zev r i_X1_hasMan 0 [some (.ref v1), some (.int i1)] [] h) fun v2 h1 =>
    if v2 = 0 then
      some (some (.int (-1 : Int32)), h1)
    else
      (zgR r h1 x 5 2).bind fun v3 =>
      if zob r h1 v3 1 = true then
      (zcI (zev r i_X1_hasMan 0 [some (.ref v3), some (.int i2)] [] h1) fun v4 h2 =>
      if v4 = 0 then
        some (some (.int (-1 : Int32)), h2)
      else
        if i1 = i2 then
          some (some (.int (-1 : Int32)), h2)
        else
          zcI (zev r i_X5_isWhen 0 [some (.int i3)] [] h2) fun v5 h3 =>
          if v5 = 0 then
            some (some (.int (-1 : Int32)), h3)
          else
            (zgR r h3 x 5 4).bind fun v6 =>
            (zgR r h3 x 5 3).bind fun v7 =>
            if zob r h3 v6 0 = true then
            (zcV (zev r i_X0_copyFrom 0 [some (.ref v6), some (.ref v7)] [] h3) fun h4 =>
            (zgR r h4 x 5 4).bind fun v8 =>
            if zob r h4 v8 0 = true then
            (zcV (zev r i_X0_swap 0 [some (.ref v8), some (.int i1), some (.int i2), none, none] [] h4) fun h5 =>
            (zgR r h5 x 5 3).bind fun v9 =>
            if zob r h5 v9 0 = true then
            (zcI (zev r i_X0_allWakings 0 [some (.ref v9), some (.int i3), none, none] [] h5) fun v10 h6 =>
            (zgR r h6 x 5 4).bind fun v11 =>
            if zob r h6 v11 0 = true then
            (zcI (zev r i_X0_allWakings 0 [some (.ref v11), some (.int i3), none, none] [] h6) fun v12 h7 =>
            some (some (.int (((100 : Int32) + v10) - v12)), h7))
            else none)
            else none)
            else none)
            else none)
      else none)
    else none) := zblk r [] 43 _ _ _ _ _
set_option maxRecDepth 100000 in
theorem E_X5_calm_0 (r : zE) (h : zH) (x : Nat) (i1 : Int32) : zev r i_X5_calm 0 [some (.ref x), some (.int i1), none] [] h =
    (zcI (zev r i_X5_isWhen 0 [some (.int i1)] [] h) fun v1 h1 =>
    if v1 = 0 then
      some (some (.int (-1 : Int32)), h1)
    else
      if zob r h1 x 5 = true then
      (zcI (zev r i_X5_firstGladPair 0 [some (.ref x), some (.int i1), none, none] [] h1) fun v2 h2 =>
      if zob r h2 x 5 = true then
      (zcV (zev r i_X5_tell 0 [some (.ref x), some (.int v2)] [] h2) fun h3 =>
      if v2 = (-9 : Int32) then
        some (some (.int (1 : Int32)), h3)
      else
        some (some (.int (0 : Int32)), h3))
      else none)
      else none) := zblk r [] 22 _ _ _ _ _
set_option maxRecDepth 100000 in
theorem E_X5_mates_0 (r : zE) (h : zH) (x : Nat) : zev r i_X5_mates 0 [some (.ref x), none, none] [] h =
    ((zgR r h x 5 2).bind fun v1 =>
    (zgI r h v1 1 1).bind fun v2 =>
    if v2 = 0 then
      some (some (.int (-4 : Int32)), h)
    else
      if zob r h x 5 = true then
      (zcV (zev r i_X5_beginPlans 0 [some (.ref x)] [] h) fun h1 =>
      (zgR r h1 x 5 2).bind fun v3 =>
      if zob r h1 v3 1 = true then
      (zcI (zev r i_X1_planCount 0 [some (.ref v3), none, none] [] h1) fun v4 h2 =>
      zev r i_X5_mates 27 [some (.ref x), some (.int (0 : Int32)), some (.int v4)] [] h2)
      else none)
      else none) := zblk r [27] 37 _ _ _ _ _
set_option maxRecDepth 100000 in
theorem E_X5_mates_27 (r : zE) (h : zH) (x : Nat) (l1 : Int32) (l2 : Int32) : zev r i_X5_mates 27 [some (.ref x), some (.int l1), some (.int l2)] [] h =
    (if 0 < l2 then
      (zgR r h x 5 4).bind fun v1 =>
      if zob r h v1 0 = true then
      (zcI (zev r i_X0_messmatePairs 0 [some (.ref v1), none, none, none, none] [] h) fun v2 h1 =>
      (zgR r h1 x 5 4).bind fun v3 =>
      if zob r h1 v3 0 = true then
      (zcV (zev r i_X0_hangByNextPlan 0 [some (.ref v3), none, none] [] h1) fun h2 =>
      zev r i_X5_mates 27 [some (.ref x), some (.int (if l1 < v2 then v2 else l1)), some (.int (l2 + (-1 : Int32)))] [] h2)
      else none)
      else none
    else
      if zob r h x 5 = true then
      (zcV (zev r i_X5_tell 0 [some (.ref x), some (.int l1)] [] h) fun h3 =>
      (zgR r h3 x 5 3).bind fun v4 =>
      if zob r h3 v4 0 = true then
      (zcI (zev r i_X0_messmatePairs 0 [some (.ref v4), none, none, none, none] [] h3) fun v5 h4 =>
      some (some (.int v5), h4))
      else none)
      else none) := zblk r [27] 37 _ _ _ _ _
set_option maxRecDepth 100000 in
theorem E_X5_cut_0 (r : zE) (h : zH) (x : Nat) (i1 : Int32) (i2 : Int32) : zev r i_X5_cut 0 [some (.ref x), some (.int i1), some (.int i2), none, none, none, none] [] h =
    ((zgR r h x 5 2).bind fun v1 =>
    if zob r h v1 1 = true then
    (zcI (zev r i_X1_hasMan 0 [some (.ref v1), some (.int i1)] [] h) fun v2 h1 =>
    if v2 = 0 then
      some (some (.int (-1 : Int32)), h1)
    else
      zcI (zev r i_X5_isWhen 0 [some (.int i2)] [] h1) fun v3 h2 =>
      if v3 = 0 then
        some (some (.int (-1 : Int32)), h2)
      else
        (zgR r h2 x 5 4).bind fun v4 =>
        (zgR r h2 x 5 3).bind fun v5 =>
        if zob r h2 v4 0 = true then
        (zcV (zev r i_X0_copyFrom 0 [some (.ref v4), some (.ref v5)] [] h2) fun h3 =>
        zev r i_X5_cut 42 [some (.ref x), some (.int i1), some (.int i2), some (.int (-9 : Int32)), some (.int (1000000 : Int32)), some (.int (1 : Int32)), none] [] h3)
        else none)
    else none) := zblk r [42] 52 _ _ _ _ _
set_option maxRecDepth 100000 in
theorem E_X5_cut_42 (r : zE) (h : zH) (x : Nat) (l1 : Int32) (l2 : Int32) (l3 : Int32) (l4 : Int32) (l5 : Int32) : zev r i_X5_cut 42 [some (.ref x), some (.int l1), some (.int l2), some (.int l3), some (.int l4), some (.int l5), none] [] h =
    (if (9 : Int32) < l5 then
      if zob r h x 5 = true then
      (zcV (zev r i_X5_tell 0 [some (.ref x), some (.int l4)] [] h) fun h1 =>
      some (some (.int l3), h1))
      else none
    else
      (zgR r h x 5 4).bind fun v1 =>
      (zgR r h v1 0 3).bind fun v2 =>
      (zsI r h v2 l1 l5).bind fun h2 =>
      (zgR r h2 x 5 4).bind fun v3 =>
      if zob r h2 v3 0 = true then
      (zcI (zev r i_X0_allWakings 0 [some (.ref v3), some (.int l2), none, none] [] h2) fun v4 h3 =>
      if v4 < l4 then
        zev r i_X5_cut 42 [some (.ref x), some (.int l1), some (.int l2), some (.int l5), some (.int v4), some (.int (l5 + (1 : Int32))), none] [] h3
      else
        zev r i_X5_cut 42 [some (.ref x), some (.int l1), some (.int l2), some (.int l3), some (.int l4), some (.int (l5 + (1 : Int32))), none] [] h3)
      else none) := zblk r [42] 52 _ _ _ _ _
set_option maxRecDepth 100000 in
theorem E_X5_up_0 (r : zE) (h : zH) (x : Nat) (i1 : Int32) (i2 : Int32) : zev r i_X5_up 0 [some (.ref x), some (.int i1), some (.int i2), none, none, none, none, none] [] h =
    (if zob r h x 5 = true then
    (zcQ (zev r i_X5_rowAt 0 [some (.ref x), some (.int i2)] [] h) fun v1 h1 => match v1 with
    | none => some (some (.int (-1 : Int32)), h1)
    | some a2 => zcI (zev r i_X5_isWhen 0 [some (.int i1)] [] h1) fun v3 h2 =>
      if v3 = 0 then
        some (some (.int (-1 : Int32)), h2)
      else
        (zgR r h2 x 5 2).bind fun v4 =>
        (zgI r h2 v4 1 1).bind fun v5 =>
        if v5 = 0 then
          some (some (.int (-4 : Int32)), h2)
        else
          (zgR r h2 x 5 4).bind fun v6 =>
          (zgR r h2 x 5 3).bind fun v7 =>
          if zob r h2 v6 0 = true then
          (zcV (zev r i_X0_copyFrom 0 [some (.ref v6), some (.ref v7)] [] h2) fun h3 =>
          (zgR r h3 x 5 4).bind fun v8 =>
          if zob r h3 v8 0 = true then
          (zcI (zev r i_X0_howManyIn 0 [some (.ref v8), some (.int i1), none, none] [] h3) fun v9 h4 =>
          if zob r h4 a2 4 = true then
          (zcV (zev r i_X4_renew 0 [some (.ref a2), some (.int v9), some (.int (0 : Int32))] [] h4) fun h5 =>
          zev r i_X5_up 66 [some (.ref x), some (.int i1), some (.int i2), some (.ref a2), some (.int v9), some (.int (0 : Int32)), some (.int (0 : Int32)), none] [] h5)
          else none)
          else none)
          else none)
    else none) := zblk r [66] 73 _ _ _ _ _
set_option maxRecDepth 100000 in
theorem E_X5_up_66 (r : zE) (h : zH) (x : Nat) (l1 : Int32) (l2 : Int32) (l3 : Nat) (l4 : Int32) (l5 : Int32) (l6 : Int32) : zev r i_X5_up 66 [some (.ref x), some (.int l1), some (.int l2), some (.ref l3), some (.int l4), some (.int l5), some (.int l6), none] [] h =
    (if l6 < l4 then
      (zgR r h x 5 4).bind fun v1 =>
      if zob r h v1 0 = true then
      (zcI (zev r i_X0_firstToGetUp 0 [some (.ref v1), some (.int l1), none] [] h) fun v2 h1 =>
      (zgR r h1 x 5 2).bind fun v3 =>
      if zob r h1 v3 1 = true then
      (zcI (zev r i_X1_hasMan 0 [some (.ref v3), some (.int v2)] [] h1) fun v4 h2 =>
      if v4 = 0 then
        some (some (.int l5), h2)
      else
        (zgR r h2 x 5 4).bind fun v5 =>
        if zob r h2 v5 0 = true then
        (zcI (zev r i_X0_inTheWayOf 0 [some (.ref v5), some (.int v2), some (.int l1), none, none, none] [] h2) fun v6 h3 =>
        if zob r h3 l3 4 = true then
        (zcV (zev r i_X4_set 0 [some (.ref l3), some (.int l6), some (.int v2)] [] h3) fun h4 =>
        (zgR r h4 x 5 4).bind fun v7 =>
        if zob r h4 v7 0 = true then
        (zcV (zev r i_X0_move 0 [some (.ref v7), some (.int v2), some (.int (-9 : Int32))] [] h4) fun h5 =>
        zev r i_X5_up 66 [some (.ref x), some (.int l1), some (.int l2), some (.ref l3), some (.int l4), some (.int (l5 + v6)), some (.int (l6 + (1 : Int32))), none] [] h5)
        else none)
        else none)
        else none)
      else none)
      else none
    else
      some (some (.int l5), h)) := zblk r [66] 73 _ _ _ _ _
set_option maxRecDepth 100000 in
theorem E_X5_fits_0 (r : zE) (h : zH) (x : Nat) (i1 : Int32) : zev r i_X5_fits 0 [some (.ref x), some (.int i1), none, none] [] h =
    (if zob r h x 5 = true then
    (zcQ (zev r i_X5_rowAt 0 [some (.ref x), some (.int i1)] [] h) fun v1 h1 => match v1 with
    | none => some (some (.int (-1 : Int32)), h1)
    | some a2 => (zgR r h1 x 5 2).bind fun v3 =>
      (zgI r h1 v3 1 1).bind fun v4 =>
      if v4 = 0 then
        some (some (.int (-4 : Int32)), h1)
      else
        if zob r h1 a2 4 = true then
        (zcI (zev r i_X4_isMissing 0 [some (.ref a2)] [] h1) fun v5 h2 =>
        if v5 = 0 then
          (zgI r h2 a2 4 1).bind fun v6 =>
          if (2 : Int32) = 0 then none else
          if (v6 - v6 / (2 : Int32) * (2 : Int32)) = 0 then
            zev r i_X5_fits 55 [some (.ref x), some (.int i1), some (.ref a2), some (.int (0 : Int32))] [] h2
          else
            if zob r h2 x 5 = true then
            (zcI (zev r i_X5_found 0 [some (.ref x), some (.int (5 : Int32))] [] h2) fun v7 h3 =>
            some (some (.int v7), h3))
            else none
        else
          if zob r h2 x 5 = true then
          (zcI (zev r i_X5_found 0 [some (.ref x), some (.int (1 : Int32))] [] h2) fun v8 h4 =>
          some (some (.int v8), h4))
          else none)
        else none)
    else none) := zblk r [55] 55 _ _ _ _ _
set_option maxRecDepth 100000 in
theorem E_X5_fits_55 (r : zE) (h : zH) (x : Nat) (l1 : Int32) (l2 : Nat) (l3 : Int32) : zev r i_X5_fits 55 [some (.ref x), some (.int l1), some (.ref l2), some (.int l3)] [] h =
    ((zgI r h l2 4 1).bind fun v1 =>
    if l3 < v1 then
      if zob r h l2 4 = true then
      (zcI (zev r i_X4_get 0 [some (.ref l2), some (.int l3)] [] h) fun v2 h1 =>
      zcI (zev r i_X5_isWhen 0 [some (.int v2)] [] h1) fun v3 h2 =>
      if v3 = 0 then
        if zob r h2 x 5 = true then
        (zcI (zev r i_X5_found 0 [some (.ref x), some (.int (3 : Int32))] [] h2) fun v4 h3 =>
        some (some (.int v4), h3))
        else none
      else
        zev r i_X5_fits 55 [some (.ref x), some (.int l1), some (.ref l2), some (.int (l3 + (2 : Int32)))] [] h2)
      else none
    else
      if zob r h x 5 = true then
      (zcV (zev r i_X5_countFitting 0 [some (.ref x), some (.ref l2), none, none, none, none] [] h) fun h4 =>
      some (some (.int (1 : Int32)), h4))
      else none) := zblk r [55] 55 _ _ _ _ _
set_option maxRecDepth 100000 in
theorem E_X5_mid_0 (r : zE) (h : zH) (x : Nat) (i1 : Int32) : zev r i_X5_mid 0 [some (.ref x), some (.int i1), none, none, none] [] h =
    (zcI (zev r i_X5_isWhen 0 [some (.int i1)] [] h) fun v1 h1 =>
    if v1 = 0 then
      some (some (.int (-1 : Int32)), h1)
    else
      (zgR r h1 x 5 2).bind fun v2 =>
      (zgI r h1 v2 1 1).bind fun v3 =>
      if v3 = 0 then
        some (some (.int (-4 : Int32)), h1)
      else
        if zob r h1 x 5 = true then
        (zcV (zev r i_X5_beginPlans 0 [some (.ref x)] [] h1) fun h2 =>
        (zgR r h2 x 5 2).bind fun v4 =>
        if zob r h2 v4 1 = true then
        (zcI (zev r i_X1_planCount 0 [some (.ref v4), none, none] [] h2) fun v5 h3 =>
        zev r i_X5_mid 37 [some (.ref x), some (.int i1), some (.long (0 : Int64)), none, some (.int v5)] [] h3)
        else none)
        else none) := zblk r [37] 46 _ _ _ _ _
set_option maxRecDepth 100000 in
theorem E_X5_mid_37 (r : zE) (h : zH) (x : Nat) (l1 : Int32) (l2 : Int64) (l4 : Int32) : zev r i_X5_mid 37 [some (.ref x), some (.int l1), some (.long l2), none, some (.int l4)] [] h =
    (if 0 < l4 then
      (zgR r h x 5 4).bind fun v1 =>
      if zob r h v1 0 = true then
      (zcI (zev r i_X0_allWakings 0 [some (.ref v1), some (.int l1), none, none] [] h) fun v2 h1 =>
      (zgR r h1 x 5 4).bind fun v3 =>
      if zob r h1 v3 0 = true then
      (zcV (zev r i_X0_hangByNextPlan 0 [some (.ref v3), none, none] [] h1) fun h2 =>
      zev r i_X5_mid 37 [some (.ref x), some (.int l1), some (.long (l2 + v2.toInt64)), none, some (.int (l4 + (-1 : Int32)))] [] h2)
      else none)
      else none
    else
      (zgR r h x 5 2).bind fun v4 =>
      if zob r h v4 1 = true then
      (zcI (zev r i_X1_planCount 0 [some (.ref v4), none, none] [] h) fun v5 h3 =>
      if zob r h3 x 5 = true then
      (zcV (zev r i_X5_tellMean 0 [some (.ref x), some (.long l2), none, some (.long v5.toInt64), none, none, none] [] h3) fun h4 =>
      some (some (.int (1 : Int32)), h4))
      else none)
      else none) := zblk r [37] 46 _ _ _ _ _
set_option maxRecDepth 100000 in
theorem E_X5_lots_0 (r : zE) (h : zH) (x : Nat) (i1 : Int32) (i2 : Int32) : zev r i_X5_lots 0 [some (.ref x), some (.int i1), some (.int i2), none, none, none, none] [] h =
    (if i1 < (1 : Int32) then
      some (some (.int (-1 : Int32)), h)
    else
      if (20 : Int32) < i1 then
        some (some (.int (-1 : Int32)), h)
      else
        if i2 < (1 : Int32) then
          some (some (.int (-1 : Int32)), h)
        else
          if (lg_cmp i2.toInt64 (2147483647 : Int64)) < 0 then
            (zgR r h x 5 2).bind fun v1 =>
            (zgI r h v1 1 1).bind fun v2 =>
            if v2 = 0 then
              some (some (.int (-4 : Int32)), h)
            else
              (zgR r h x 5 5).bind fun v3 =>
              if zob r h v3 2 = true then
              (zcI (zev r i_X2_hasRoomFor 0 [some (.ref v3), some (.int i1)] [] h) fun v4 h1 =>
              if v4 = 0 then
                some (some (.int (-2 : Int32)), h1)
              else
                zev r i_X5_lots 63 [some (.ref x), some (.int i1), some (.int i2), some (.long i2.toInt64), none, some (.int (0 : Int32)), some (.int (0 : Int32))] [] h1)
              else none
          else
            some (some (.int (-1 : Int32)), h)) := zblk r [63] 63 _ _ _ _ _
set_option maxRecDepth 100000 in
theorem E_X5_lots_63 (r : zE) (h : zH) (x : Nat) (l1 : Int32) (l2 : Int32) (l3 : Int64) (l5 : Int32) (l6 : Int32) : zev r i_X5_lots 63 [some (.ref x), some (.int l1), some (.int l2), some (.long l3), none, some (.int l5), some (.int l6)] [] h =
    (if l6 < l1 then
      if (2147483647 : Int64) = 0 then none else
      if (16 : Int64) = 0 then none else
      if (3 : Int64) = 0 then none else
      if zob r h x 5 = true then
      (zcI (zev r i_X5_sleptThrough 0 [some (.ref x), some (.int (((((l3 * (48271 : Int64)) - (l3 * (48271 : Int64)) / (2147483647 : Int64) * (2147483647 : Int64)) / (16 : Int64)) - (((l3 * (48271 : Int64)) - (l3 * (48271 : Int64)) / (2147483647 : Int64) * (2147483647 : Int64)) / (16 : Int64)) / (3 : Int64) * (3 : Int64)).toInt32)), none] [] h) fun v1 h1 =>
      zev r i_X5_lots 63 [some (.ref x), some (.int l1), some (.int l2), some (.long ((l3 * (48271 : Int64)) - (l3 * (48271 : Int64)) / (2147483647 : Int64) * (2147483647 : Int64))), none, some (.int (l5 + v1)), some (.int (l6 + (1 : Int32)))] [] h1)
      else none
    else
      some (some (.int l5), h)) := zblk r [63] 63 _ _ _ _ _
set_option maxRecDepth 100000 in
theorem E_X5_asked_0 (r : zE) (h : zH) (x : Nat) : zev r i_X5_asked 0 [some (.ref x)] [] h =
    ((zgI r h x 5 7).bind fun v1 =>
    some (some (.int v1), h)) := zblk r [] 6 _ _ _ _ _
set_option maxRecDepth 100000 in
theorem E_X5_upper_0 (r : zE) (h : zH) (x : Nat) : zev r i_X5_upper 0 [some (.ref x)] [] h =
    ((zgL r h x 5 8).bind fun v1 =>
    some (some (.long v1), h)) := zblk r [] 6 _ _ _ _ _
set_option maxRecDepth 100000 in
theorem E_X5_lower_0 (r : zE) (h : zH) (x : Nat) : zev r i_X5_lower 0 [some (.ref x)] [] h =
    ((zgL r h x 5 9).bind fun v1 =>
    some (some (.long v1), h)) := zblk r [] 6 _ _ _ _ _
set_option maxRecDepth 100000 in
theorem E_X5_count_0 (r : zE) (h : zH) (x : Nat) (i1 : Int32) : zev r i_X5_count 0 [some (.ref x), some (.int i1)] [] h =
    (if i1 < 0 then
      some (some (.int (-1 : Int32)), h)
    else
      if i1 < (9 : Int32) then
        if zob r h x 5 = true then
        (zcI (zev r i_X5_counted 0 [some (.ref x), some (.int i1)] [] h) fun v1 h1 =>
        some (some (.int v1), h1))
        else none
      else
        some (some (.int (-1 : Int32)), h)) := zblk r [] 14 _ _ _ _ _
set_option maxRecDepth 100000 in
theorem E_X5_digest_0 (r : zE) (h : zH) (x : Nat) : zev r i_X5_digest 0 [some (.ref x), none, none, none, none] [] h =
    (zev r i_X5_digest 6 [some (.ref x), some (.long (17 : Int64)), none, some (.int (0 : Int32)), none] [] h) := zblk r [6, 33, 47, 85, 99, 138, 172, 200] 129 _ _ _ _ _
set_option maxRecDepth 100000 in
theorem E_X5_digest_6 (r : zE) (h : zH) (x : Nat) (l1 : Int64) (l3 : Int32) : zev r i_X5_digest 6 [some (.ref x), some (.long l1), none, some (.int l3), none] [] h =
    (if l3 < (9 : Int32) then
      if zob r h x 5 = true then
      (zcI (zev r i_X5_counted 0 [some (.ref x), some (.int l3)] [] h) fun v1 h1 =>
      zev r i_X5_digest 6 [some (.ref x), some (.long (((31 : Int64) * l1) + v1.toInt64)), none, some (.int (l3 + (1 : Int32))), none] [] h1)
      else none
    else
      zev r i_X5_digest 33 [some (.ref x), some (.long l1), none, some (.int (0 : Int32)), none] [] h) := zblk r [6, 33, 47, 85, 99, 138, 172, 200] 129 _ _ _ _ _
set_option maxRecDepth 100000 in
theorem E_X5_digest_33 (r : zE) (h : zH) (x : Nat) (l1 : Int64) (l3 : Int32) : zev r i_X5_digest 33 [some (.ref x), some (.long l1), none, some (.int l3), none] [] h =
    ((zgR r h x 5 2).bind fun v1 =>
    (zgI r h v1 1 0).bind fun v2 =>
    if l3 < v2 then
      zev r i_X5_digest 47 [some (.ref x), some (.long l1), none, some (.int l3), some (.int (0 : Int32))] [] h
    else
      zev r i_X5_digest 85 [some (.ref x), some (.long l1), none, some (.int (0 : Int32)), none] [] h) := zblk r [6, 33, 47, 85, 99, 138, 172, 200] 129 _ _ _ _ _
set_option maxRecDepth 100000 in
theorem E_X5_digest_47 (r : zE) (h : zH) (x : Nat) (l1 : Int64) (l3 : Int32) (l4 : Int32) : zev r i_X5_digest 47 [some (.ref x), some (.long l1), none, some (.int l3), some (.int l4)] [] h =
    (if l4 < (2 : Int32) then
      (zgR r h x 5 3).bind fun v1 =>
      if zob r h v1 0 = true then
      (zcI (zev r i_X0_hookDetail 0 [some (.ref v1), some (.int l3), some (.int l4)] [] h) fun v2 h1 =>
      zev r i_X5_digest 47 [some (.ref x), some (.long (((31 : Int64) * l1) + v2.toInt64)), none, some (.int l3), some (.int (l4 + (1 : Int32)))] [] h1)
      else none
    else
      zev r i_X5_digest 33 [some (.ref x), some (.long l1), none, some (.int (l3 + (1 : Int32))), none] [] h) := zblk r [6, 33, 47, 85, 99, 138, 172, 200] 129 _ _ _ _ _
set_option maxRecDepth 100000 in
theorem E_X5_digest_85 (r : zE) (h : zH) (x : Nat) (l1 : Int64) (l3 : Int32) : zev r i_X5_digest 85 [some (.ref x), some (.long l1), none, some (.int l3), none] [] h =
    ((zgR r h x 5 2).bind fun v1 =>
    (zgI r h v1 1 1).bind fun v2 =>
    if l3 < v2 then
      zev r i_X5_digest 99 [some (.ref x), some (.long l1), none, some (.int l3), some (.int (0 : Int32))] [] h
    else
      zev r i_X5_digest 138 [some (.ref x), some (.long l1), none, some (.int (0 : Int32)), none] [] h) := zblk r [6, 33, 47, 85, 99, 138, 172, 200] 129 _ _ _ _ _
set_option maxRecDepth 100000 in
theorem E_X5_digest_99 (r : zE) (h : zH) (x : Nat) (l1 : Int64) (l3 : Int32) (l4 : Int32) : zev r i_X5_digest 99 [some (.ref x), some (.long l1), none, some (.int l3), some (.int l4)] [] h =
    (if l4 < (6 : Int32) then
      (zgR r h x 5 3).bind fun v1 =>
      if zob r h v1 0 = true then
      (zcI (zev r i_X0_manDetail 0 [some (.ref v1), some (.int l3), some (.int l4)] [] h) fun v2 h1 =>
      zev r i_X5_digest 99 [some (.ref x), some (.long (((31 : Int64) * l1) + v2.toInt64)), none, some (.int l3), some (.int (l4 + (1 : Int32)))] [] h1)
      else none
    else
      zev r i_X5_digest 85 [some (.ref x), some (.long l1), none, some (.int (l3 + (1 : Int32))), none] [] h) := zblk r [6, 33, 47, 85, 99, 138, 172, 200] 129 _ _ _ _ _
set_option maxRecDepth 100000 in
theorem E_X5_digest_138 (r : zE) (h : zH) (x : Nat) (l1 : Int64) (l3 : Int32) : zev r i_X5_digest 138 [some (.ref x), some (.long l1), none, some (.int l3), none] [] h =
    ((zgR r h x 5 6).bind fun v1 =>
    (zaN r h v1).bind fun n2 =>
    if l3 < (Int32.ofNat n2) then
      (zgR r h x 5 6).bind fun v3 =>
      (zaQ r h v3 l3).bind fun v4 => match v4 with
      | none => none
      | some a5 => (zgI r h a5 2 1).bind fun v6 =>
        zev r i_X5_digest 138 [some (.ref x), some (.long (((31 : Int64) * l1) + v6.toInt64)), none, some (.int (l3 + (1 : Int32))), none] [] h
    else
      zev r i_X5_digest 172 [some (.ref x), some (.long l1), none, some (.int (0 : Int32)), none] [] h) := zblk r [6, 33, 47, 85, 99, 138, 172, 200] 129 _ _ _ _ _
set_option maxRecDepth 100000 in
theorem E_X5_digest_172 (r : zE) (h : zH) (x : Nat) (l1 : Int64) (l3 : Int32) : zev r i_X5_digest 172 [some (.ref x), some (.long l1), none, some (.int l3), none] [] h =
    ((zgR r h x 5 0).bind fun v1 =>
    (zaN r h v1).bind fun n2 =>
    if l3 < (Int32.ofNat n2) then
      (zgR r h x 5 0).bind fun v3 =>
      (zaQ r h v3 l3).bind fun v4 => match v4 with
      | none => none
      | some a5 => if zob r h a5 4 = true then
        (zcL (zev r i_X4_digestedOnto 0 [some (.ref a5), some (.long l1), none, none, none, none] [] h) fun v6 h1 =>
        zev r i_X5_digest 172 [some (.ref x), some (.long v6), none, some (.int (l3 + (1 : Int32))), none] [] h1)
        else none
    else
      zev r i_X5_digest 200 [some (.ref x), some (.long l1), none, some (.int (0 : Int32)), none] [] h) := zblk r [6, 33, 47, 85, 99, 138, 172, 200] 129 _ _ _ _ _
set_option maxRecDepth 100000 in
theorem E_X5_digest_200 (r : zE) (h : zH) (x : Nat) (l1 : Int64) (l3 : Int32) : zev r i_X5_digest 200 [some (.ref x), some (.long l1), none, some (.int l3), none] [] h =
    ((zgR r h x 5 1).bind fun v1 =>
    (zaN r h v1).bind fun n2 =>
    if l3 < (Int32.ofNat n2) then
      (zgR r h x 5 1).bind fun v3 =>
      (zaQ r h v3 l3).bind fun v4 => match v4 with
      | none => none
      | some a5 => if zob r h a5 4 = true then
        (zcL (zev r i_X4_digestedOnto 0 [some (.ref a5), some (.long l1), none, none, none, none] [] h) fun v6 h1 =>
        zev r i_X5_digest 200 [some (.ref x), some (.long v6), none, some (.int (l3 + (1 : Int32))), none] [] h1)
        else none
    else
      some (some (.long l1), h)) := zblk r [6, 33, 47, 85, 99, 138, 172, 200] 129 _ _ _ _ _
set_option maxRecDepth 100000 in
theorem E_X5_rowAt_0 (r : zE) (h : zH) (x : Nat) (i1 : Int32) : zev r i_X5_rowAt 0 [some (.ref x), some (.int i1)] [] h =
    (if i1 < 0 then
      some (some .null, h)
    else
      (zgR r h x 5 0).bind fun v1 =>
      (zaN r h v1).bind fun n2 =>
      if i1 < (Int32.ofNat n2) then
        (zgR r h x 5 0).bind fun v3 =>
        (zaQ r h v3 i1).bind fun v4 => match v4 with
        | none => some (some .null, h)
        | some a5 => some (some (.ref a5), h)
      else
        some (some .null, h)) := zblk r [] 17 _ _ _ _ _
set_option maxRecDepth 100000 in
theorem E_X5_textAt_0 (r : zE) (h : zH) (x : Nat) (i1 : Int32) : zev r i_X5_textAt 0 [some (.ref x), some (.int i1)] [] h =
    (if i1 < 0 then
      some (some .null, h)
    else
      (zgR r h x 5 1).bind fun v1 =>
      (zaN r h v1).bind fun n2 =>
      if i1 < (Int32.ofNat n2) then
        (zgR r h x 5 1).bind fun v3 =>
        (zaQ r h v3 i1).bind fun v4 => match v4 with
        | none => some (some .null, h)
        | some a5 => some (some (.ref a5), h)
      else
        some (some .null, h)) := zblk r [] 17 _ _ _ _ _
set_option maxRecDepth 100000 in
theorem E_X5_isWhen_0 (r : zE) (h : zH) (i1 : Int32) : zev r i_X5_isWhen 0 [some (.int i1)] [] h =
    (if i1 < 0 then
      some (some (.int (0 : Int32)), h)
    else
      if (2 : Int32) < i1 then
        some (some (.int (0 : Int32)), h)
      else
        some (some (.int (1 : Int32)), h)) := zblk r [] 12 _ _ _ _ _
set_option maxRecDepth 100000 in
theorem E_X5_isKeptPlace_0 (r : zE) (h : zH) (x : Nat) (i1 : Int32) : zev r i_X5_isKeptPlace 0 [some (.ref x), some (.int i1)] [] h =
    (if i1 < 0 then
      some (some (.int (0 : Int32)), h)
    else
      (zgR r h x 5 6).bind fun v1 =>
      (zaN r h v1).bind fun n2 =>
      if i1 < (Int32.ofNat n2) then
        some (some (.int (1 : Int32)), h)
      else
        some (some (.int (0 : Int32)), h)) := zblk r [] 14 _ _ _ _ _
set_option maxRecDepth 100000 in
theorem E_X5_found_0 (r : zE) (h : zH) (x : Nat) (i1 : Int32) : zev r i_X5_found 0 [some (.ref x), some (.int i1)] [] h =
    (if i1 < (1 : Int32) then
      (zpF r h x 5 10 (.int i1)).bind fun h1 =>
      some (some (.int (-3 : Int32)), h1)
    else
      if (5 : Int32) < i1 then
        (zpF r h x 5 10 (.int i1)).bind fun h2 =>
        some (some (.int (-3 : Int32)), h2)
      else
        (zgR r h x 5 11).bind fun v1 =>
        (zaI r h v1 i1).bind fun v2 =>
        (zsI r h v1 i1 (v2 + (1 : Int32))).bind fun h3 =>
        (zpF r h3 x 5 10 (.int i1)).bind fun h4 =>
        some (some (.int (-3 : Int32)), h4)) := zblk r [] 22 _ _ _ _ _
set_option maxRecDepth 100000 in
theorem E_X5_tell_0 (r : zE) (h : zH) (x : Nat) (i1 : Int32) : zev r i_X5_tell 0 [some (.ref x), some (.int i1)] [] h =
    ((zpF r h x 5 7 (.int i1)).bind fun h1 =>
    some (none, h1)) := zblk r [] 7 _ _ _ _ _
set_option maxRecDepth 100000 in
theorem E_X5_tellMean_0 (r : zE) (h : zH) (x : Nat) (j1 : Int64) (j2 : Int64) : zev r i_X5_tellMean 0 [some (.ref x), some (.long j1), none, some (.long j2), none, none, none] [] h =
    (zcL (zev r i_X5_commonDivisor 0 [some (.long j1), none, some (.long j2), none, none, none, none, none, none, none, none] [] h) fun v1 h1 =>
    if (if v1 < (1 : Int64) then (1 : Int64) else v1) = 0 then none else
    (zpF r h1 x 5 8 (.long (j1 / (if v1 < (1 : Int64) then (1 : Int64) else v1)))).bind fun h2 =>
    if (if v1 < (1 : Int64) then (1 : Int64) else v1) = 0 then none else
    (zpF r h2 x 5 9 (.long (j2 / (if v1 < (1 : Int64) then (1 : Int64) else v1)))).bind fun h3 =>
    some (none, h3)) := zblk r [] 20 _ _ _ _ _
set_option maxRecDepth 100000 in
theorem E_X5_commonDivisor_0 (r : zE) (h : zH) (j1 : Int64) (j2 : Int64) : zev r i_X5_commonDivisor 0 [some (.long j1), none, some (.long j2), none, none, none, none, none, none, none, none] [] h =
    (zev r i_X5_commonDivisor 9 [some (.long j1), none, some (.long j2), none, some (.long j1), none, some (.long j2), none, some (.int (0 : Int32)), none, none] [] h) := zblk r [9] 29 _ _ _ _ _
set_option maxRecDepth 100000 in
theorem E_X5_commonDivisor_9 (r : zE) (h : zH) (l0 : Int64) (l2 : Int64) (l4 : Int64) (l6 : Int64) (l8 : Int32) : zev r i_X5_commonDivisor 9 [some (.long l0), none, some (.long l2), none, some (.long l4), none, some (.long l6), none, some (.int l8), none, none] [] h =
    (if l8 < (130 : Int32) then
      if (lg_cmp l6 (0 : Int64)) = 0 then
        some (some (.long (if 0 < l4 then l4 else -l4)), h)
      else
        if l6 = 0 then none else
        zev r i_X5_commonDivisor 9 [some (.long l0), none, some (.long l2), none, some (.long l6), none, some (.long (l4 - l4 / l6 * l6)), none, some (.int (l8 + (1 : Int32))), none, none] [] h
    else
      some (some (.long (if 0 < l4 then l4 else -l4)), h)) := zblk r [9] 29 _ _ _ _ _
set_option maxRecDepth 100000 in
theorem E_X5_renewed_0 (r : zE) (h : zH) (x : Nat) (a1 : Nat) (i2 : Int32) (i3 : Int32) (i4 : Int32) : zev r i_X5_renewed 0 [some (.ref x), some (.ref a1), some (.int i2), some (.int i3), some (.int i4)] [] h =
    (if i3 < i2 then
      some (some (.int (-1 : Int32)), h)
    else
      if i2 < 0 then
        if zob r h x 5 = true then
        (zcI (zev r i_X5_found 0 [some (.ref x), some (.int (5 : Int32))] [] h) fun v1 h1 =>
        some (some (.int v1), h1))
        else none
      else
        if zob r h a1 4 = true then
        (zcV (zev r i_X4_renew 0 [some (.ref a1), some (.int i2), some (.int i4)] [] h) fun h2 =>
        some (some (.int i2), h2))
        else none) := zblk r [] 22 _ _ _ _ _
set_option maxRecDepth 100000 in
theorem E_X5_renewed_0_n (r : zE) (h : zH) (x : Nat) (i2 : Int32) (i3 : Int32) (i4 : Int32) : zev r i_X5_renewed 0 [some (.ref x), some (.null), some (.int i2), some (.int i3), some (.int i4)] [] h =
    (some (some (.int (-1 : Int32)), h)) := zblk r [] 22 _ _ _ _ _
set_option maxRecDepth 100000 in
theorem E_X5_sleptThrough_0 (r : zE) (h : zH) (x : Nat) (i1 : Int32) : zev r i_X5_sleptThrough 0 [some (.ref x), some (.int i1), none] [] h =
    ((zgR r h x 5 3).bind fun v1 =>
    if zob r h v1 0 = true then
    (zcI (zev r i_X0_tire 0 [some (.ref v1), some (.int i1), none, none, none] [] h) fun v2 h1 =>
    (zgR r h1 x 5 5).bind fun v3 =>
    (zgR r h1 x 5 3).bind fun v4 =>
    if zob r h1 v3 2 = true then
    (zcV (zev r i_X2_add 0 [some (.ref v3), some (.ref v4)] [] h1) fun h2 =>
    some (some (.int v2), h2))
    else none)
    else none) := zblk r [] 15 _ _ _ _ _
set_option maxRecDepth 100000 in
theorem E_X5_wakingsWithout_0 (r : zE) (h : zH) (x : Nat) (i1 : Int32) (i2 : Int32) (i3 : Int32) : zev r i_X5_wakingsWithout 0 [some (.ref x), some (.int i1), some (.int i2), some (.int i3)] [] h =
    ((zgR r h x 5 4).bind fun v1 =>
    (zgR r h x 5 3).bind fun v2 =>
    if zob r h v1 0 = true then
    (zcV (zev r i_X0_copyFrom 0 [some (.ref v1), some (.ref v2)] [] h) fun h1 =>
    (zgR r h1 x 5 4).bind fun v3 =>
    if zob r h1 v3 0 = true then
    (zcV (zev r i_X0_move 0 [some (.ref v3), some (.int i1), some (.int (-9 : Int32))] [] h1) fun h2 =>
    (zgR r h2 x 5 4).bind fun v4 =>
    if zob r h2 v4 0 = true then
    (zcI (zev r i_X0_wakings 0 [some (.ref v4), some (.int i2), some (.int i3), none, none] [] h2) fun v5 h3 =>
    some (some (.int v5), h3))
    else none)
    else none)
    else none) := zblk r [] 19 _ _ _ _ _
set_option maxRecDepth 100000 in
theorem E_X5_beginPlans_0 (r : zE) (h : zH) (x : Nat) : zev r i_X5_beginPlans 0 [some (.ref x)] [] h =
    ((zgR r h x 5 4).bind fun v1 =>
    (zgR r h x 5 3).bind fun v2 =>
    if zob r h v1 0 = true then
    (zcV (zev r i_X0_copyFrom 0 [some (.ref v1), some (.ref v2)] [] h) fun h1 =>
    (zgR r h1 x 5 4).bind fun v3 =>
    if zob r h1 v3 0 = true then
    (zcV (zev r i_X0_hangByFirstPlan 0 [some (.ref v3), none] [] h1) fun h2 =>
    some (none, h2))
    else none)
    else none) := zblk r [] 12 _ _ _ _ _
set_option maxRecDepth 100000 in
theorem E_X5_leastPlan_0 (r : zE) (h : zH) (x : Nat) (i1 : Int32) (i2 : Int32) (a3 : Nat) : zev r i_X5_leastPlan 0 [some (.ref x), some (.int i1), some (.int i2), some (.ref a3), none, none, none, none] [] h =
    ((zgR r h x 5 2).bind fun v1 =>
    (zgI r h v1 1 1).bind fun v2 =>
    if v2 = 0 then
      some (some (.int (-4 : Int32)), h)
    else
      (zgR r h x 5 2).bind fun v3 =>
      (zgI r h v3 1 1).bind fun v4 =>
      if zob r h a3 4 = true then
      (zcV (zev r i_X4_renew 0 [some (.ref a3), some (.int v4), some (.int (0 : Int32))] [] h) fun h1 =>
      if zob r h1 x 5 = true then
      (zcV (zev r i_X5_beginPlans 0 [some (.ref x)] [] h1) fun h2 =>
      (zgR r h2 x 5 2).bind fun v5 =>
      if zob r h2 v5 1 = true then
      (zcI (zev r i_X1_planCount 0 [some (.ref v5), none, none] [] h2) fun v6 h3 =>
      zev r i_X5_leastPlan 49 [some (.ref x), some (.int i1), some (.int i2), some (.ref a3), some (.int (1000000 : Int32)), some (.int v6), none, none] [] h3)
      else none)
      else none)
      else none) := zblk r [49, 76] 63 _ _ _ _ _
set_option maxRecDepth 100000 in
theorem E_X5_leastPlan_0_n (r : zE) (h : zH) (x : Nat) (i1 : Int32) (i2 : Int32) : zev r i_X5_leastPlan 0 [some (.ref x), some (.int i1), some (.int i2), some (.null), none, none, none, none] [] h =
    (some (some (.int (-1 : Int32)), h)) := zblk r [49, 76] 63 _ _ _ _ _
set_option maxRecDepth 100000 in
theorem E_X5_leastPlan_49 (r : zE) (h : zH) (x : Nat) (l1 : Int32) (l2 : Int32) (l3 : Nat) (l4 : Int32) (l5 : Int32) : zev r i_X5_leastPlan 49 [some (.ref x), some (.int l1), some (.int l2), some (.ref l3), some (.int l4), some (.int l5), none, none] [] h =
    (if 0 < l5 then
      if zob r h x 5 = true then
      (zcI (zev r i_X5_weighed 0 [some (.ref x), some (.int l1), some (.int l2)] [] h) fun v1 h1 =>
      if v1 < l4 then
        zev r i_X5_leastPlan 76 [some (.ref x), some (.int l1), some (.int l2), some (.ref l3), some (.int v1), some (.int l5), some (.int v1), some (.int (0 : Int32))] [] h1
      else
        (zgR r h1 x 5 4).bind fun v2 =>
        if zob r h1 v2 0 = true then
        (zcV (zev r i_X0_hangByNextPlan 0 [some (.ref v2), none, none] [] h1) fun h2 =>
        zev r i_X5_leastPlan 49 [some (.ref x), some (.int l1), some (.int l2), some (.ref l3), some (.int l4), some (.int (l5 + (-1 : Int32))), none, none] [] h2)
        else none)
      else none
    else
      some (some (.int l4), h)) := zblk r [49, 76] 63 _ _ _ _ _
set_option maxRecDepth 100000 in
theorem E_X5_leastPlan_76 (r : zE) (h : zH) (x : Nat) (l1 : Int32) (l2 : Int32) (l3 : Nat) (l4 : Int32) (l5 : Int32) (l6 : Int32) (l7 : Int32) : zev r i_X5_leastPlan 76 [some (.ref x), some (.int l1), some (.int l2), some (.ref l3), some (.int l4), some (.int l5), some (.int l6), some (.int l7)] [] h =
    ((zgR r h x 5 2).bind fun v1 =>
    (zgI r h v1 1 1).bind fun v2 =>
    if l7 < v2 then
      (zgR r h x 5 4).bind fun v3 =>
      (zgR r h v3 0 1).bind fun v4 =>
      (zaI r h v4 l7).bind fun v5 =>
      if zob r h l3 4 = true then
      (zcV (zev r i_X4_set 0 [some (.ref l3), some (.int l7), some (.int v5)] [] h) fun h1 =>
      zev r i_X5_leastPlan 76 [some (.ref x), some (.int l1), some (.int l2), some (.ref l3), some (.int l4), some (.int l5), some (.int l6), some (.int (l7 + (1 : Int32)))] [] h1)
      else none
    else
      (zgR r h x 5 4).bind fun v6 =>
      if zob r h v6 0 = true then
      (zcV (zev r i_X0_hangByNextPlan 0 [some (.ref v6), none, none] [] h) fun h2 =>
      zev r i_X5_leastPlan 49 [some (.ref x), some (.int l1), some (.int l2), some (.ref l3), some (.int l4), some (.int (l5 + (-1 : Int32))), none, none] [] h2)
      else none) := zblk r [49, 76] 63 _ _ _ _ _
set_option maxRecDepth 100000 in
theorem E_X5_weighed_0 (r : zE) (h : zH) (x : Nat) (i1 : Int32) (i2 : Int32) : zev r i_X5_weighed 0 [some (.ref x), some (.int i1), some (.int i2)] [] h =
    (if i1 = (0 : Int32) then
      (zgR r h x 5 4).bind fun v1 =>
      if zob r h v1 0 = true then
      (zcI (zev r i_X0_allWakings 0 [some (.ref v1), some (.int i2), none, none] [] h) fun v2 h1 =>
      some (some (.int v2), h1))
      else none
    else if i1 = (1 : Int32) then
      (zgR r h x 5 4).bind fun v3 =>
      if zob r h v3 0 = true then
      (zcI (zev r i_X0_mostWakings 0 [some (.ref v3), some (.int i2), none, none] [] h) fun v4 h2 =>
      some (some (.int v4), h2))
      else none
    else (zgR r h x 5 4).bind fun v5 =>
      if zob r h v5 0 = true then
      (zcI (zev r i_X0_allWakings 0 [some (.ref v5), some (.int (1 : Int32)), none, none] [] h) fun v6 h3 =>
      (zgR r h3 x 5 4).bind fun v7 =>
      if zob r h3 v7 0 = true then
      (zcI (zev r i_X0_allWakings 0 [some (.ref v7), some (.int (2 : Int32)), none, none] [] h3) fun v8 h4 =>
      some (some (.int (v6 + v8)), h4))
      else none)
      else none) := zblk r [] 25 _ _ _ _ _
set_option maxRecDepth 100000 in
theorem E_X5_firstGladPair_0 (r : zE) (h : zH) (x : Nat) (i1 : Int32) : zev r i_X5_firstGladPair 0 [some (.ref x), some (.int i1), none, none] [] h =
    (zev r i_X5_firstGladPair 2 [some (.ref x), some (.int i1), some (.int (0 : Int32)), none] [] h) := zblk r [2, 17] 37 _ _ _ _ _
set_option maxRecDepth 100000 in
theorem E_X5_firstGladPair_2 (r : zE) (h : zH) (x : Nat) (l1 : Int32) (l2 : Int32) : zev r i_X5_firstGladPair 2 [some (.ref x), some (.int l1), some (.int l2), none] [] h =
    ((zgR r h x 5 2).bind fun v1 =>
    (zgI r h v1 1 1).bind fun v2 =>
    if l2 < v2 then
      zev r i_X5_firstGladPair 17 [some (.ref x), some (.int l1), some (.int l2), some (.int (l2 + (1 : Int32)))] [] h
    else
      some (some (.int (-9 : Int32)), h)) := zblk r [2, 17] 37 _ _ _ _ _
set_option maxRecDepth 100000 in
theorem E_X5_firstGladPair_17 (r : zE) (h : zH) (x : Nat) (l1 : Int32) (l2 : Int32) (l3 : Int32) : zev r i_X5_firstGladPair 17 [some (.ref x), some (.int l1), some (.int l2), some (.int l3)] [] h =
    ((zgR r h x 5 2).bind fun v1 =>
    (zgI r h v1 1 1).bind fun v2 =>
    if l3 < v2 then
      if zob r h x 5 = true then
      (zcI (zev r i_X5_wouldBothGladlyChange 0 [some (.ref x), some (.int l2), some (.int l3), some (.int l1)] [] h) fun v3 h1 =>
      if v3 = 0 then
        zev r i_X5_firstGladPair 17 [some (.ref x), some (.int l1), some (.int l2), some (.int (l3 + (1 : Int32)))] [] h1
      else
        some (some (.int (((6 : Int32) * l2) + l3)), h1))
      else none
    else
      zev r i_X5_firstGladPair 2 [some (.ref x), some (.int l1), some (.int (l2 + (1 : Int32))), none] [] h) := zblk r [2, 17] 37 _ _ _ _ _
set_option maxRecDepth 100000 in
theorem E_X5_wouldBothGladlyChange_0 (r : zE) (h : zH) (x : Nat) (i1 : Int32) (i2 : Int32) (i3 : Int32) : zev r i_X5_wouldBothGladlyChange 0 [some (.ref x), some (.int i1), some (.int i2), some (.int i3)] [] h =
    ((zgR r h x 5 3).bind fun v1 =>
    if zob r h v1 0 = true then
    (zcI (zev r i_X0_isIn 0 [some (.ref v1), some (.int i1), some (.int i3)] [] h) fun v2 h1 =>
    if v2 = 0 then
      some (some (.int (0 : Int32)), h1)
    else
      (zgR r h1 x 5 3).bind fun v3 =>
      if zob r h1 v3 0 = true then
      (zcI (zev r i_X0_isIn 0 [some (.ref v3), some (.int i2), some (.int i3)] [] h1) fun v4 h2 =>
      if v4 = 0 then
        some (some (.int (0 : Int32)), h2)
      else
        (zgR r h2 x 5 4).bind fun v5 =>
        (zgR r h2 x 5 3).bind fun v6 =>
        if zob r h2 v5 0 = true then
        (zcV (zev r i_X0_copyFrom 0 [some (.ref v5), some (.ref v6)] [] h2) fun h3 =>
        (zgR r h3 x 5 4).bind fun v7 =>
        if zob r h3 v7 0 = true then
        (zcV (zev r i_X0_swap 0 [some (.ref v7), some (.int i1), some (.int i2), none, none] [] h3) fun h4 =>
        (zgR r h4 x 5 4).bind fun v8 =>
        if zob r h4 v8 0 = true then
        (zcI (zev r i_X0_wakings 0 [some (.ref v8), some (.int i1), some (.int i3), none, none] [] h4) fun v9 h5 =>
        (zgR r h5 x 5 3).bind fun v10 =>
        if zob r h5 v10 0 = true then
        (zcI (zev r i_X0_wakings 0 [some (.ref v10), some (.int i1), some (.int i3), none, none] [] h5) fun v11 h6 =>
        if v9 < v11 then
          (zgR r h6 x 5 4).bind fun v12 =>
          if zob r h6 v12 0 = true then
          (zcI (zev r i_X0_wakings 0 [some (.ref v12), some (.int i2), some (.int i3), none, none] [] h6) fun v13 h7 =>
          (zgR r h7 x 5 3).bind fun v14 =>
          if zob r h7 v14 0 = true then
          (zcI (zev r i_X0_wakings 0 [some (.ref v14), some (.int i2), some (.int i3), none, none] [] h7) fun v15 h8 =>
          if v13 < v15 then
            some (some (.int (1 : Int32)), h8)
          else
            some (some (.int (0 : Int32)), h8))
          else none)
          else none
        else
          some (some (.int (0 : Int32)), h6))
        else none)
        else none)
        else none)
        else none)
      else none)
    else none) := zblk r [] 53 _ _ _ _ _
set_option maxRecDepth 100000 in
theorem E_X5_countFitting_0 (r : zE) (h : zH) (x : Nat) (a1 : Nat) : zev r i_X5_countFitting 0 [some (.ref x), some (.ref a1), none, none, none, none] [] h =
    (if zob r h x 5 = true then
    (zcV (zev r i_X5_beginPlans 0 [some (.ref x)] [] h) fun h1 =>
    (zgR r h1 x 5 2).bind fun v1 =>
    if zob r h1 v1 1 = true then
    (zcI (zev r i_X1_planCount 0 [some (.ref v1), none, none] [] h1) fun v2 h2 =>
    zev r i_X5_countFitting 18 [some (.ref x), some (.ref a1), some (.int (0 : Int32)), some (.int (-9 : Int32)), some (.int v2), none] [] h2)
    else none)
    else none) := zblk r [18] 51 _ _ _ _ _
set_option maxRecDepth 100000 in
theorem E_X5_countFitting_18 (r : zE) (h : zH) (x : Nat) (l1 : Nat) (l2 : Int32) (l3 : Int32) (l4 : Int32) : zev r i_X5_countFitting 18 [some (.ref x), some (.ref l1), some (.int l2), some (.int l3), some (.int l4), none] [] h =
    (if 0 < l4 then
      if zob r h x 5 = true then
      (zcI (zev r i_X5_fitsBook 0 [some (.ref x), some (.ref l1), none] [] h) fun v1 h1 =>
      if v1 = 0 then
        (zgR r h1 x 5 4).bind fun v2 =>
        if zob r h1 v2 0 = true then
        (zcV (zev r i_X0_hangByNextPlan 0 [some (.ref v2), none, none] [] h1) fun h2 =>
        zev r i_X5_countFitting 18 [some (.ref x), some (.ref l1), some (.int l2), some (.int l3), some (.int (l4 + (-1 : Int32))), none] [] h2)
        else none
      else
        (zgR r h1 x 5 4).bind fun v3 =>
        (zgR r h1 v3 0 1).bind fun v4 =>
        (zaI r h1 v4 (0 : Int32)).bind fun v5 =>
        if l2 = 0 then
          (zgR r h1 x 5 4).bind fun v6 =>
          if zob r h1 v6 0 = true then
          (zcV (zev r i_X0_hangByNextPlan 0 [some (.ref v6), none, none] [] h1) fun h3 =>
          zev r i_X5_countFitting 18 [some (.ref x), some (.ref l1), some (.int (l2 + (1 : Int32))), some (.int v5), some (.int (l4 + (-1 : Int32))), none] [] h3)
          else none
        else
          if l3 = v5 then
            (zgR r h1 x 5 4).bind fun v7 =>
            if zob r h1 v7 0 = true then
            (zcV (zev r i_X0_hangByNextPlan 0 [some (.ref v7), none, none] [] h1) fun h4 =>
            zev r i_X5_countFitting 18 [some (.ref x), some (.ref l1), some (.int (l2 + (1 : Int32))), some (.int v5), some (.int (l4 + (-1 : Int32))), none] [] h4)
            else none
          else
            (zgR r h1 x 5 4).bind fun v8 =>
            if zob r h1 v8 0 = true then
            (zcV (zev r i_X0_hangByNextPlan 0 [some (.ref v8), none, none] [] h1) fun h5 =>
            zev r i_X5_countFitting 18 [some (.ref x), some (.ref l1), some (.int (l2 + (1 : Int32))), some (.int (-9 : Int32)), some (.int (l4 + (-1 : Int32))), none] [] h5)
            else none)
      else none
    else
      (zpF r h x 5 8 (.long l2.toInt64)).bind fun h6 =>
      (zpF r h6 x 5 9 (.long (1 : Int64))).bind fun h7 =>
      if zob r h7 x 5 = true then
      (zcV (zev r i_X5_tell 0 [some (.ref x), some (.int l3)] [] h7) fun h8 =>
      some (none, h8))
      else none) := zblk r [18] 51 _ _ _ _ _
set_option maxRecDepth 100000 in
theorem E_X5_fitsBook_0 (r : zE) (h : zH) (x : Nat) (a1 : Nat) : zev r i_X5_fitsBook 0 [some (.ref x), some (.ref a1), none] [] h =
    (zev r i_X5_fitsBook 2 [some (.ref x), some (.ref a1), some (.int (0 : Int32))] [] h) := zblk r [2] 19 _ _ _ _ _
set_option maxRecDepth 100000 in
theorem E_X5_fitsBook_2 (r : zE) (h : zH) (x : Nat) (l1 : Nat) (l2 : Int32) : zev r i_X5_fitsBook 2 [some (.ref x), some (.ref l1), some (.int l2)] [] h =
    (if (2 : Int32) < l2 then
      some (some (.int (1 : Int32)), h)
    else
      if zob r h x 5 = true then
      (zcI (zev r i_X5_fitsBookBy 0 [some (.ref x), some (.int l2), some (.ref l1), none, none] [] h) fun v1 h1 =>
      if v1 = 0 then
        some (some (.int (0 : Int32)), h1)
      else
        zev r i_X5_fitsBook 2 [some (.ref x), some (.ref l1), some (.int (l2 + (1 : Int32)))] [] h1)
      else none) := zblk r [2] 19 _ _ _ _ _
set_option maxRecDepth 100000 in
theorem E_X5_fitsBookBy_0 (r : zE) (h : zH) (x : Nat) (i1 : Int32) (a2 : Nat) : zev r i_X5_fitsBookBy 0 [some (.ref x), some (.int i1), some (.ref a2), none, none] [] h =
    (zev r i_X5_fitsBookBy 6 [some (.ref x), some (.int i1), some (.ref a2), some (.int (-9 : Int32)), some (.int (0 : Int32))] [] h) := zblk r [6] 38 _ _ _ _ _
set_option maxRecDepth 100000 in
theorem E_X5_fitsBookBy_6 (r : zE) (h : zH) (x : Nat) (l1 : Int32) (l2 : Nat) (l3 : Int32) (l4 : Int32) : zev r i_X5_fitsBookBy 6 [some (.ref x), some (.int l1), some (.ref l2), some (.int l3), some (.int l4)] [] h =
    ((zgI r h l2 4 1).bind fun v1 =>
    if l4 < v1 then
      if zob r h l2 4 = true then
      (zcI (zev r i_X4_get 0 [some (.ref l2), some (.int l4)] [] h) fun v2 h1 =>
      if v2 = l1 then
        if l3 = (-9 : Int32) then
          (zgR r h1 x 5 4).bind fun v3 =>
          if zob r h1 v3 0 = true then
          (zcI (zev r i_X0_allWakings 0 [some (.ref v3), some (.int l1), none, none] [] h1) fun v4 h2 =>
          if zob r h2 l2 4 = true then
          (zcI (zev r i_X4_get 0 [some (.ref l2), some (.int (l4 + (1 : Int32)))] [] h2) fun v5 h3 =>
          if v4 = v5 then
            zev r i_X5_fitsBookBy 6 [some (.ref x), some (.int l1), some (.ref l2), some (.int v4), some (.int (l4 + (2 : Int32)))] [] h3
          else
            some (some (.int (0 : Int32)), h3))
          else none)
          else none
        else
          if zob r h1 l2 4 = true then
          (zcI (zev r i_X4_get 0 [some (.ref l2), some (.int (l4 + (1 : Int32)))] [] h1) fun v6 h4 =>
          if l3 = v6 then
            zev r i_X5_fitsBookBy 6 [some (.ref x), some (.int l1), some (.ref l2), some (.int l3), some (.int (l4 + (2 : Int32)))] [] h4
          else
            some (some (.int (0 : Int32)), h4))
          else none
      else
        zev r i_X5_fitsBookBy 6 [some (.ref x), some (.int l1), some (.ref l2), some (.int l3), some (.int (l4 + (2 : Int32)))] [] h1)
      else none
    else
      some (some (.int (1 : Int32)), h)) := zblk r [6] 38 _ _ _ _ _
set_option maxRecDepth 100000 in
theorem E_X5_counted_0 (r : zE) (h : zH) (x : Nat) (i1 : Int32) : zev r i_X5_counted 0 [some (.ref x), some (.int i1)] [] h =
    (if i1 = (0 : Int32) then
      (zgR r h x 5 2).bind fun v1 =>
      (zgI r h v1 1 1).bind fun v2 =>
      some (some (.int v2), h)
    else if i1 = (1 : Int32) then
      (zgR r h x 5 2).bind fun v3 =>
      (zgI r h v3 1 0).bind fun v4 =>
      some (some (.int v4), h)
    else if i1 = (2 : Int32) then
      (zgR r h x 5 5).bind fun v5 =>
      (zgI r h v5 2 1).bind fun v6 =>
      some (some (.int v6), h)
    else if i1 = (3 : Int32) then
      (zgR r h x 5 3).bind fun v7 =>
      if zob r h v7 0 = true then
      (zcI (zev r i_X0_howManyIn 0 [some (.ref v7), some (.int (0 : Int32)), none, none] [] h) fun v8 h1 =>
      some (some (.int v8), h1))
      else none
    else if i1 = (4 : Int32) then
      (zgR r h x 5 3).bind fun v9 =>
      if zob r h v9 0 = true then
      (zcI (zev r i_X0_tiredTogether 0 [some (.ref v9), none, none] [] h) fun v10 h2 =>
      some (some (.int v10), h2))
      else none
    else if i1 = (5 : Int32) then
      (zgR r h x 5 2).bind fun v11 =>
      if zob r h v11 1 = true then
      (zcI (zev r i_X1_bitsOf 0 [some (.ref v11), some (.int (1 : Int32)), none, none] [] h) fun v12 h3 =>
      zcI (zev r i_J6_bitCount_0f7a4 0 [some (.int v12)] [] h3) fun v13 h4 =>
      some (some (.int v13), h4))
      else none
    else if i1 = (6 : Int32) then
      (zgR r h x 5 0).bind fun v14 =>
      zcI (zev r i_X5_howManyThere 0 [some (.ref v14), none, none] [] h) fun v15 h5 =>
      some (some (.int v15), h5)
    else if i1 = (7 : Int32) then
      (zgR r h x 5 1).bind fun v16 =>
      zcI (zev r i_X5_howManyThere 0 [some (.ref v16), none, none] [] h) fun v17 h6 =>
      some (some (.int v17), h6)
    else if zob r h x 5 = true then
      (zcI (zev r i_X5_howManyKept 0 [some (.ref x), none, none] [] h) fun v18 h7 =>
      some (some (.int v18), h7))
      else none) := zblk r [] 43 _ _ _ _ _
set_option maxRecDepth 100000 in
theorem E_X5_howManyThere_0 (r : zE) (h : zH) (a1 : Nat) : zev r i_X5_howManyThere 0 [some (.ref a1), none, none] [] h =
    (zev r i_X5_howManyThere 4 [some (.ref a1), some (.int (0 : Int32)), some (.int (0 : Int32))] [] h) := zblk r [4] 21 _ _ _ _ _
set_option maxRecDepth 100000 in
theorem E_X5_howManyThere_4 (r : zE) (h : zH) (l0 : Nat) (l1 : Int32) (l2 : Int32) : zev r i_X5_howManyThere 4 [some (.ref l0), some (.int l1), some (.int l2)] [] h =
    ((zaN r h l0).bind fun n1 =>
    if l2 < (Int32.ofNat n1) then
      (zaQ r h l0 l2).bind fun v2 => match v2 with
      | none => none
      | some a3 => if zob r h a3 4 = true then
        (zcI (zev r i_X4_isMissing 0 [some (.ref a3)] [] h) fun v4 h1 =>
        if v4 = 0 then
          zev r i_X5_howManyThere 4 [some (.ref l0), some (.int (l1 + (1 : Int32))), some (.int (l2 + (1 : Int32)))] [] h1
        else
          zev r i_X5_howManyThere 4 [some (.ref l0), some (.int l1), some (.int (l2 + (1 : Int32)))] [] h1)
        else none
    else
      some (some (.int l1), h)) := zblk r [4] 21 _ _ _ _ _
set_option maxRecDepth 100000 in
theorem E_X5_howManyKept_0 (r : zE) (h : zH) (x : Nat) : zev r i_X5_howManyKept 0 [some (.ref x), none, none] [] h =
    (zev r i_X5_howManyKept 4 [some (.ref x), some (.int (0 : Int32)), some (.int (0 : Int32))] [] h) := zblk r [4] 23 _ _ _ _ _
set_option maxRecDepth 100000 in
theorem E_X5_howManyKept_4 (r : zE) (h : zH) (x : Nat) (l1 : Int32) (l2 : Int32) : zev r i_X5_howManyKept 4 [some (.ref x), some (.int l1), some (.int l2)] [] h =
    ((zgR r h x 5 6).bind fun v1 =>
    (zaN r h v1).bind fun n2 =>
    if l2 < (Int32.ofNat n2) then
      (zgR r h x 5 6).bind fun v3 =>
      (zaQ r h v3 l2).bind fun v4 => match v4 with
      | none => none
      | some a5 => if zob r h a5 2 = true then
        (zcI (zev r i_X2_isMissing 0 [some (.ref a5)] [] h) fun v6 h1 =>
        if v6 = 0 then
          zev r i_X5_howManyKept 4 [some (.ref x), some (.int (l1 + (1 : Int32))), some (.int (l2 + (1 : Int32)))] [] h1
        else
          zev r i_X5_howManyKept 4 [some (.ref x), some (.int l1), some (.int (l2 + (1 : Int32)))] [] h1)
        else none
    else
      some (some (.int l1), h)) := zblk r [4] 23 _ _ _ _ _
