/-! stretches of code as equations (printed by wip/whole/gen20.py) -/
set_option maxRecDepth 100000 in
theorem E_X6_init_0 (r : zE) (h : zH) (x : Nat) : zev r i_X6_init 0 [some (.ref x), none] [] h =
    ((zpF r (h ++ [.inl (4396, fun _ => 0)] : zH) x 6 0 (.ref (r.1 + h.length))).bind fun h1 =>
    (zpF r (h1 ++ [.inl (7, fun _ => 0)] : zH) x 6 2 (.ref (r.1 + h1.length))).bind fun h2 =>
    (zpF r (h2 ++ [.inl (6, fun _ => 0)] : zH) x 6 4 (.ref (r.1 + h2.length))).bind fun h3 =>
    (zpF r (h3 ++ [.inl (6, fun _ => 0)] : zH) x 6 5 (.ref (r.1 + h3.length))).bind fun h4 =>
    (zpF r (h4 ++ [.inl (6, fun _ => 0)] : zH) x 6 6 (.ref (r.1 + h4.length))).bind fun h5 =>
    (zsI r (h5 ++ [.inl (6, fun _ => 0)] : zH) (r.1 + h5.length) (0 : Int32) (-1 : Int32)).bind fun h6 =>
    (zsI r h6 (r.1 + h5.length) (1 : Int32) (-1 : Int32)).bind fun h7 =>
    (zsI r h7 (r.1 + h5.length) (2 : Int32) (-1 : Int32)).bind fun h8 =>
    (zsI r h8 (r.1 + h5.length) (3 : Int32) (-1 : Int32)).bind fun h9 =>
    (zsI r h9 (r.1 + h5.length) (4 : Int32) (-1 : Int32)).bind fun h10 =>
    (zsI r h10 (r.1 + h5.length) (5 : Int32) (-1 : Int32)).bind fun h11 =>
    (zpF r h11 x 6 7 (.ref (r.1 + h5.length))).bind fun h12 =>
    (zpF r (h12 ++ [.inl (240, fun _ => 0)] : zH) x 6 8 (.ref (r.1 + h12.length))).bind fun h13 =>
    (zsI r (h13 ++ [.inl (4, fun _ => 0)] : zH) (r.1 + h13.length) (0 : Int32) (-1 : Int32)).bind fun h14 =>
    (zsI r h14 (r.1 + h13.length) (1 : Int32) (-1 : Int32)).bind fun h15 =>
    (zsI r h15 (r.1 + h13.length) (2 : Int32) (-1 : Int32)).bind fun h16 =>
    (zsI r h16 (r.1 + h13.length) (3 : Int32) (-1 : Int32)).bind fun h17 =>
    (zpF r h17 x 6 9 (.ref (r.1 + h13.length))).bind fun h18 =>
    (zpF r (h18 ++ [.inl (240, fun _ => 0)] : zH) x 6 10 (.ref (r.1 + h18.length))).bind fun h19 =>
    (zpF r h19 x 6 13 (.long (1 : Int64))).bind fun h20 =>
    (zpF r (h20 ++ [.inl (6, fun _ => 0)] : zH) x 6 15 (.ref (r.1 + h20.length))).bind fun h21 =>
    (zpF r (h21 ++ [.inl (7, fun _ => 0)] : zH) x 6 19 (.ref (r.1 + h21.length))).bind fun h22 =>
    (zpF r (h22 ++ [.inl (24, fun _ => 0)] : zH) x 6 21 (.ref (r.1 + h22.length))).bind fun h23 =>
    (zpF r (h23 ++ [.inl (6, fun _ => 0)] : zH) x 6 23 (.ref (r.1 + h23.length))).bind fun h24 =>
    (zpF r (h24 ++ [.inl (6, fun _ => 0)] : zH) x 6 24 (.ref (r.1 + h24.length))).bind fun h25 =>
    (zpF r (h25 ++ [.inl (6, fun _ => 0)] : zH) x 6 25 (.ref (r.1 + h25.length))).bind fun h26 =>
    zev r i_X6_init 173 [some (.ref x), some (.int (1 : Int32))] [] h26) := zblk r [173] 125 _ _ _ _ _
set_option maxRecDepth 100000 in
theorem E_X6_init_173 (r : zE) (h : zH) (x : Nat) (l1 : Int32) : zev r i_X6_init 173 [some (.ref x), some (.int l1)] [] h =
    (if l1 < (4 : Int32) then
      (zgR r h x 6 0).bind fun v1 =>
      (zsI r h v1 (((1099 : Int32) * l1) + (0 : Int32)) (-1 : Int32)).bind fun h1 =>
      zev r i_X6_init 173 [some (.ref x), some (.int (l1 + (1 : Int32)))] [] h1
    else
      some (none, h)) := zblk r [173] 125 _ _ _ _ _
set_option maxRecDepth 100000 in
theorem E_X6_in_0 (r : zE) (h : zH) (j1 : Int64) (j2 : Int64) (j3 : Int64) : zev r i_X6_in 0 [some (.long j1), none, some (.long j2), none, some (.long j3), none] [] h =
    (if (lg_cmp j1 j2) < 0 then
      some (some (.int (0 : Int32)), h)
    else
      if 0 < (lg_cmp j1 j3) then
        some (some (.int (0 : Int32)), h)
      else
        some (some (.int (1 : Int32)), h)) := zblk r [] 15 _ _ _ _ _
set_option maxRecDepth 100000 in
theorem E_X6_find_0 (r : zE) (h : zH) (x : Nat) (i1 : Int32) : zev r i_X6_find 0 [some (.ref x), some (.int i1)] [] h =
    ((zpF r h x 6 14 (.int i1)).bind fun h1 =>
    (zgR r h1 x 6 15).bind fun v1 =>
    (zaI r h1 v1 i1).bind fun v2 =>
    (zsI r h1 v1 i1 (v2 + (1 : Int32))).bind fun h2 =>
    some (some (.int (-3 : Int32)), h2)) := zblk r [] 16 _ _ _ _ _
set_option maxRecDepth 100000 in
theorem E_X6_tell_0 (r : zE) (h : zH) (x : Nat) (i1 : Int32) : zev r i_X6_tell 0 [some (.ref x), some (.int i1)] [] h =
    ((zpF r h x 6 11 (.int i1)).bind fun h1 =>
    some (some (.int (1 : Int32)), h1)) := zblk r [] 8 _ _ _ _ _
set_option maxRecDepth 100000 in
theorem E_X6_isRow_0 (r : zE) (h : zH) (i1 : Int32) : zev r i_X6_isRow 0 [some (.int i1)] [] h =
    (zcI (zev r i_X6_in 0 [some (.long i1.toInt64), none, some (.long (0 : Int64)), none, some (.long (5 : Int64)), none] [] h) fun v1 h1 =>
    if v1 = 0 ∨ v1 = 1 then some (some (.int v1), h1) else none) := zblk r [] 9 _ _ _ _ _
set_option maxRecDepth 100000 in
theorem E_X6_isText_0 (r : zE) (h : zH) (i1 : Int32) : zev r i_X6_isText 0 [some (.int i1)] [] h =
    (zcI (zev r i_X6_in 0 [some (.long i1.toInt64), none, some (.long (0 : Int64)), none, some (.long (3 : Int64)), none] [] h) fun v1 h1 =>
    if v1 = 0 ∨ v1 = 1 then some (some (.int v1), h1) else none) := zblk r [] 9 _ _ _ _ _
set_option maxRecDepth 100000 in
theorem E_X6_row_0 (r : zE) (h : zH) (x : Nat) (i1 : Int32) (i2 : Int32) : zev r i_X6_row 0 [some (.ref x), some (.int i1), some (.int i2)] [] h =
    (zcI (zev r i_X6_isRow 0 [some (.int i1)] [] h) fun v1 h1 =>
    if v1 = 0 then
      some (some (.int (-1 : Int32)), h1)
    else
      if (40 : Int32) < i2 then
        some (some (.int (-1 : Int32)), h1)
      else
        if i2 < 0 then
          if zob r h1 x 6 = true then
          (zcI (zev r i_X6_find 0 [some (.ref x), some (.int (5 : Int32))] [] h1) fun v2 h2 =>
          some (some (.int v2), h2))
          else none
        else
          if zob r h1 x 6 = true then
          (zcV (zev r i_X6_makeRow 0 [some (.ref x), some (.int i1), some (.int i2), none] [] h1) fun h3 =>
          some (some (.int i2), h3))
          else none) := zblk r [] 23 _ _ _ _ _
set_option maxRecDepth 100000 in
theorem E_X6_makeRow_0 (r : zE) (h : zH) (x : Nat) (i1 : Int32) (i2 : Int32) : zev r i_X6_makeRow 0 [some (.ref x), some (.int i1), some (.int i2), none] [] h =
    ((zgR r h x 6 7).bind fun v1 =>
    (zsI r h v1 i1 i2).bind fun h1 =>
    zev r i_X6_makeRow 9 [some (.ref x), some (.int i1), some (.int i2), some (.int (0 : Int32))] [] h1) := zblk r [9] 25 _ _ _ _ _
set_option maxRecDepth 100000 in
theorem E_X6_makeRow_9 (r : zE) (h : zH) (x : Nat) (l1 : Int32) (l2 : Int32) (l3 : Int32) : zev r i_X6_makeRow 9 [some (.ref x), some (.int l1), some (.int l2), some (.int l3)] [] h =
    (if l3 < (40 : Int32) then
      (zgR r h x 6 8).bind fun v1 =>
      (zsI r h v1 (((40 : Int32) * l1) + l3) (0 : Int32)).bind fun h1 =>
      zev r i_X6_makeRow 9 [some (.ref x), some (.int l1), some (.int l2), some (.int (l3 + (1 : Int32)))] [] h1
    else
      some (none, h)) := zblk r [9] 25 _ _ _ _ _
set_option maxRecDepth 100000 in
theorem E_X6_refused_0 (r : zE) (h : zH) (x : Nat) (i1 : Int32) (i2 : Int32) : zev r i_X6_refused 0 [some (.ref x), some (.int i1), some (.int i2)] [] h =
    (zcI (zev r i_X6_isRow 0 [some (.int i1)] [] h) fun v1 h1 =>
    if v1 = 0 then
      some (some (.int (-1 : Int32)), h1)
    else
      (zgR r h1 x 6 7).bind fun v2 =>
      (zaI r h1 v2 i1).bind fun v3 =>
      if v3 < 0 then
        if zob r h1 x 6 = true then
        (zcI (zev r i_X6_find 0 [some (.ref x), some (.int (1 : Int32))] [] h1) fun v4 h2 =>
        some (some (.int v4), h2))
        else none
      else
        (zgR r h1 x 6 7).bind fun v5 =>
        (zaI r h1 v5 i1).bind fun v6 =>
        zcI (zev r i_X6_in 0 [some (.long i2.toInt64), none, some (.long (0 : Int64)), none, some (.long ((v6 - (1 : Int32)).toInt64)), none] [] h1) fun v7 h3 =>
        if v7 = 0 then
          if zob r h3 x 6 = true then
          (zcI (zev r i_X6_find 0 [some (.ref x), some (.int (2 : Int32))] [] h3) fun v8 h4 =>
          some (some (.int v8), h4))
          else none
        else
          some (some (.int (0 : Int32)), h3)) := zblk r [] 35 _ _ _ _ _
set_option maxRecDepth 100000 in
theorem E_X6_lay_0 (r : zE) (h : zH) (x : Nat) (i1 : Int32) (i2 : Int32) (i3 : Int32) : zev r i_X6_lay 0 [some (.ref x), some (.int i1), some (.int i2), some (.int i3), none, none] [] h =
    (if zob r h x 6 = true then
    (zcI (zev r i_X6_refused 0 [some (.ref x), some (.int i1), some (.int i2)] [] h) fun v1 h1 =>
    if v1 = 0 then
      (zgR r h1 x 6 8).bind fun v2 =>
      (zaI r h1 v2 (((40 : Int32) * i1) + i2)).bind fun v3 =>
      (zgR r h1 x 6 8).bind fun v4 =>
      (zsI r h1 v4 (((40 : Int32) * i1) + i2) i3).bind fun h2 =>
      if zob r h2 x 6 = true then
      (zcI (zev r i_X6_tell 0 [some (.ref x), some (.int v3)] [] h2) fun v5 h3 =>
      some (some (.int v5), h3))
      else none
    else
      some (some (.int v1), h1))
    else none) := zblk r [] 34 _ _ _ _ _
set_option maxRecDepth 100000 in
theorem E_X6_at_0 (r : zE) (h : zH) (x : Nat) (i1 : Int32) (i2 : Int32) : zev r i_X6_at 0 [some (.ref x), some (.int i1), some (.int i2), none] [] h =
    (if zob r h x 6 = true then
    (zcI (zev r i_X6_refused 0 [some (.ref x), some (.int i1), some (.int i2)] [] h) fun v1 h1 =>
    if v1 = 0 then
      (zgR r h1 x 6 8).bind fun v2 =>
      (zaI r h1 v2 (((40 : Int32) * i1) + i2)).bind fun v3 =>
      if zob r h1 x 6 = true then
      (zcI (zev r i_X6_tell 0 [some (.ref x), some (.int v3)] [] h1) fun v4 h2 =>
      some (some (.int v4), h2))
      else none
    else
      some (some (.int v1), h1))
    else none) := zblk r [] 23 _ _ _ _ _
set_option maxRecDepth 100000 in
theorem E_X6_tear_0 (r : zE) (h : zH) (x : Nat) (i1 : Int32) : zev r i_X6_tear 0 [some (.ref x), some (.int i1)] [] h =
    (zcI (zev r i_X6_isRow 0 [some (.int i1)] [] h) fun v1 h1 =>
    if v1 = 0 then
      some (some (.int (-1 : Int32)), h1)
    else
      (zgR r h1 x 6 7).bind fun v2 =>
      (zaI r h1 v2 i1).bind fun v3 =>
      if v3 < 0 then
        if zob r h1 x 6 = true then
        (zcI (zev r i_X6_find 0 [some (.ref x), some (.int (1 : Int32))] [] h1) fun v4 h2 =>
        some (some (.int v4), h2))
        else none
      else
        (zgR r h1 x 6 7).bind fun v5 =>
        (zsI r h1 v5 i1 (-1 : Int32)).bind fun h3 =>
        some (some (.int (1 : Int32)), h3)) := zblk r [] 24 _ _ _ _ _
set_option maxRecDepth 100000 in
theorem E_X6_isSpan_0 (r : zE) (h : zH) (x : Nat) (i1 : Int32) (i2 : Int32) (i3 : Int32) : zev r i_X6_isSpan 0 [some (.ref x), some (.int i1), some (.int i2), some (.int i3)] [] h =
    (if i2 < 0 then
      some (some (.int (0 : Int32)), h)
    else
      (zgR r h x 6 7).bind fun v1 =>
      (zaI r h v1 i1).bind fun v2 =>
      if 0 < (lg_cmp (i2.toInt64 + i3.toInt64) v2.toInt64) then
        some (some (.int (0 : Int32)), h)
      else
        some (some (.int (1 : Int32)), h)) := zblk r [] 21 _ _ _ _ _
set_option maxRecDepth 100000 in
theorem E_X6_copy_0 (r : zE) (h : zH) (x : Nat) (i1 : Int32) (i2 : Int32) (i3 : Int32) (i4 : Int32) (i5 : Int32) : zev r i_X6_copy 0 [some (.ref x), some (.int i1), some (.int i2), some (.int i3), some (.int i4), some (.int i5), none, none, none] [] h =
    (zcI (zev r i_X6_isRow 0 [some (.int i1)] [] h) fun v1 h1 =>
    if v1 = 0 then
      some (some (.int (-1 : Int32)), h1)
    else
      zcI (zev r i_X6_isRow 0 [some (.int i3)] [] h1) fun v2 h2 =>
      if v2 = 0 then
        some (some (.int (-1 : Int32)), h2)
      else
        if i5 < 0 then
          if zob r h2 x 6 = true then
          (zcI (zev r i_X6_find 0 [some (.ref x), some (.int (5 : Int32))] [] h2) fun v3 h3 =>
          some (some (.int v3), h3))
          else none
        else
          (zgR r h2 x 6 7).bind fun v4 =>
          (zaI r h2 v4 i1).bind fun v5 =>
          if v5 < 0 then
            if zob r h2 x 6 = true then
            (zcI (zev r i_X6_find 0 [some (.ref x), some (.int (1 : Int32))] [] h2) fun v6 h4 =>
            some (some (.int v6), h4))
            else none
          else
            (zgR r h2 x 6 7).bind fun v7 =>
            (zaI r h2 v7 i3).bind fun v8 =>
            if v8 < 0 then
              if zob r h2 x 6 = true then
              (zcI (zev r i_X6_find 0 [some (.ref x), some (.int (1 : Int32))] [] h2) fun v9 h5 =>
              some (some (.int v9), h5))
              else none
            else
              if zob r h2 x 6 = true then
              (zcI (zev r i_X6_isSpan 0 [some (.ref x), some (.int i1), some (.int i2), some (.int i5)] [] h2) fun v10 h6 =>
              if v10 = 0 then
                if zob r h6 x 6 = true then
                (zcI (zev r i_X6_find 0 [some (.ref x), some (.int (2 : Int32))] [] h6) fun v11 h7 =>
                some (some (.int v11), h7))
                else none
              else
                if zob r h6 x 6 = true then
                (zcI (zev r i_X6_isSpan 0 [some (.ref x), some (.int i3), some (.int i4), some (.int i5)] [] h6) fun v12 h8 =>
                if v12 = 0 then
                  if zob r h8 x 6 = true then
                  (zcI (zev r i_X6_find 0 [some (.ref x), some (.int (2 : Int32))] [] h8) fun v13 h9 =>
                  some (some (.int v13), h9))
                  else none
                else
                  if i2 < i4 then
                    zev r i_X6_copy 96 [some (.ref x), some (.int i1), some (.int i2), some (.int i3), some (.int i4), some (.int i5), some (.int (1 : Int32)), some (.int (0 : Int32)), none] [] h8
                  else
                    zev r i_X6_copy 96 [some (.ref x), some (.int i1), some (.int i2), some (.int i3), some (.int i4), some (.int i5), some (.int (0 : Int32)), some (.int (0 : Int32)), none] [] h8)
                else none)
              else none) := zblk r [96, 120] 93 _ _ _ _ _
set_option maxRecDepth 100000 in
theorem E_X6_copy_96 (r : zE) (h : zH) (x : Nat) (l1 : Int32) (l2 : Int32) (l3 : Int32) (l4 : Int32) (l5 : Int32) (l6 : Int32) (l7 : Int32) : zev r i_X6_copy 96 [some (.ref x), some (.int l1), some (.int l2), some (.int l3), some (.int l4), some (.int l5), some (.int l6), some (.int l7), none] [] h =
    (if l7 < l5 then
      if l6 = 0 then
        zev r i_X6_copy 120 [some (.ref x), some (.int l1), some (.int l2), some (.int l3), some (.int l4), some (.int l5), some (.int l6), some (.int l7), none] [.int l7] h
      else
        zev r i_X6_copy 120 [some (.ref x), some (.int l1), some (.int l2), some (.int l3), some (.int l4), some (.int l5), some (.int l6), some (.int l7), none] [.int ((l5 - (1 : Int32)) - l7)] h
    else
      some (some (.int (1 : Int32)), h)) := zblk r [96, 120] 93 _ _ _ _ _
set_option maxRecDepth 100000 in
theorem E_X6_copy_120 (r : zE) (h : zH) (x : Nat) (l1 : Int32) (l2 : Int32) (l3 : Int32) (l4 : Int32) (l5 : Int32) (l6 : Int32) (l7 : Int32) (s0 : Int32) : zev r i_X6_copy 120 [some (.ref x), some (.int l1), some (.int l2), some (.int l3), some (.int l4), some (.int l5), some (.int l6), some (.int l7), none] [.int s0] h =
    ((zgR r h x 6 8).bind fun v1 =>
    (zgR r h x 6 8).bind fun v2 =>
    (zaI r h v2 ((((40 : Int32) * l1) + l2) + s0)).bind fun v3 =>
    (zsI r h v1 ((((40 : Int32) * l3) + l4) + s0) v3).bind fun h1 =>
    zev r i_X6_copy 96 [some (.ref x), some (.int l1), some (.int l2), some (.int l3), some (.int l4), some (.int l5), some (.int l6), some (.int (l7 + (1 : Int32))), none] [] h1) := zblk r [96, 120] 93 _ _ _ _ _
set_option maxRecDepth 100000 in
theorem E_X6_mean_0 (r : zE) (h : zH) (x : Nat) (i1 : Int32) : zev r i_X6_mean 0 [some (.ref x), some (.int i1), none, none, none] [] h =
    (zcI (zev r i_X6_isRow 0 [some (.int i1)] [] h) fun v1 h1 =>
    if v1 = 0 then
      some (some (.int (-1 : Int32)), h1)
    else
      (zgR r h1 x 6 7).bind fun v2 =>
      (zaI r h1 v2 i1).bind fun v3 =>
      if v3 < 0 then
        if zob r h1 x 6 = true then
        (zcI (zev r i_X6_find 0 [some (.ref x), some (.int (1 : Int32))] [] h1) fun v4 h2 =>
        some (some (.int v4), h2))
        else none
      else
        (zgR r h1 x 6 7).bind fun v5 =>
        (zaI r h1 v5 i1).bind fun v6 =>
        if v6 = 0 then
          if zob r h1 x 6 = true then
          (zcI (zev r i_X6_find 0 [some (.ref x), some (.int (4 : Int32))] [] h1) fun v7 h3 =>
          some (some (.int v7), h3))
          else none
        else
          zev r i_X6_mean 44 [some (.ref x), some (.int i1), some (.long (0 : Int64)), none, some (.int (0 : Int32))] [] h1) := zblk r [44] 61 _ _ _ _ _
set_option maxRecDepth 100000 in
theorem E_X6_mean_44 (r : zE) (h : zH) (x : Nat) (l1 : Int32) (l2 : Int64) (l4 : Int32) : zev r i_X6_mean 44 [some (.ref x), some (.int l1), some (.long l2), none, some (.int l4)] [] h =
    ((zgR r h x 6 7).bind fun v1 =>
    (zaI r h v1 l1).bind fun v2 =>
    if l4 < v2 then
      (zgR r h x 6 8).bind fun v3 =>
      (zaI r h v3 (((40 : Int32) * l1) + l4)).bind fun v4 =>
      zev r i_X6_mean 44 [some (.ref x), some (.int l1), some (.long (l2 + v4.toInt64)), none, some (.int (l4 + (1 : Int32)))] [] h
    else
      (zgR r h x 6 7).bind fun v5 =>
      (zaI r h v5 l1).bind fun v6 =>
      if v6.toInt64 = 0 then none else
      if zob r h x 6 = true then
      (zcI (zev r i_X6_tell 0 [some (.ref x), some (.int ((l2 / v6.toInt64).toInt32))] [] h) fun v7 h1 =>
      some (some (.int v7), h1))
      else none) := zblk r [44] 61 _ _ _ _ _
set_option maxRecDepth 100000 in
theorem E_X6_text_0 (r : zE) (h : zH) (x : Nat) (i1 : Int32) (i2 : Int32) : zev r i_X6_text 0 [some (.ref x), some (.int i1), some (.int i2), none] [] h =
    (zcI (zev r i_X6_isText 0 [some (.int i1)] [] h) fun v1 h1 =>
    if v1 = 0 then
      some (some (.int (-1 : Int32)), h1)
    else
      if (60 : Int32) < i2 then
        some (some (.int (-1 : Int32)), h1)
      else
        if i2 < 0 then
          if zob r h1 x 6 = true then
          (zcI (zev r i_X6_find 0 [some (.ref x), some (.int (5 : Int32))] [] h1) fun v2 h2 =>
          some (some (.int v2), h2))
          else none
        else
          (zgR r h1 x 6 9).bind fun v3 =>
          (zsI r h1 v3 i1 i2).bind fun h3 =>
          zev r i_X6_text 34 [some (.ref x), some (.int i1), some (.int i2), some (.int (0 : Int32))] [] h3) := zblk r [34] 40 _ _ _ _ _
set_option maxRecDepth 100000 in
theorem E_X6_text_34 (r : zE) (h : zH) (x : Nat) (l1 : Int32) (l2 : Int32) (l3 : Int32) : zev r i_X6_text 34 [some (.ref x), some (.int l1), some (.int l2), some (.int l3)] [] h =
    (if l3 < (60 : Int32) then
      (zgR r h x 6 10).bind fun v1 =>
      (zsI r h v1 (((60 : Int32) * l1) + l3) (32 : Int32)).bind fun h1 =>
      zev r i_X6_text 34 [some (.ref x), some (.int l1), some (.int l2), some (.int (l3 + (1 : Int32)))] [] h1
    else
      some (some (.int l2), h)) := zblk r [34] 40 _ _ _ _ _
set_option maxRecDepth 100000 in
theorem E_X6_put_0 (r : zE) (h : zH) (x : Nat) (i1 : Int32) (i2 : Int32) (i3 : Int32) : zev r i_X6_put 0 [some (.ref x), some (.int i1), some (.int i2), some (.int i3), none] [] h =
    (zcI (zev r i_X6_isText 0 [some (.int i1)] [] h) fun v1 h1 =>
    if v1 = 0 then
      some (some (.int (-1 : Int32)), h1)
    else
      (zgR r h1 x 6 9).bind fun v2 =>
      (zaI r h1 v2 i1).bind fun v3 =>
      if v3 < 0 then
        if zob r h1 x 6 = true then
        (zcI (zev r i_X6_find 0 [some (.ref x), some (.int (1 : Int32))] [] h1) fun v4 h2 =>
        some (some (.int v4), h2))
        else none
      else
        (zgR r h1 x 6 9).bind fun v5 =>
        (zaI r h1 v5 i1).bind fun v6 =>
        zcI (zev r i_X6_in 0 [some (.long i2.toInt64), none, some (.long (0 : Int64)), none, some (.long ((v6 - (1 : Int32)).toInt64)), none] [] h1) fun v7 h3 =>
        if v7 = 0 then
          if zob r h3 x 6 = true then
          (zcI (zev r i_X6_find 0 [some (.ref x), some (.int (2 : Int32))] [] h3) fun v8 h4 =>
          some (some (.int v8), h4))
          else none
        else
          (zgR r h3 x 6 10).bind fun v9 =>
          (zaI r h3 v9 (((60 : Int32) * i1) + i2)).bind fun v10 =>
          (zgR r h3 x 6 10).bind fun v11 =>
          (zsI r h3 v11 (((60 : Int32) * i1) + i2) i3.toInt8.toInt32).bind fun h5 =>
          some (some (.int (v10 + (1000 : Int32))), h5)) := zblk r [] 56 _ _ _ _ _
set_option maxRecDepth 100000 in
theorem E_X6_here_0 (r : zE) (h : zH) (x : Nat) : zev r i_X6_here 0 [some (.ref x)] [] h =
    ((zgR r h x 6 10).bind fun v1 =>
    (zgI r h x 6 16).bind fun v2 =>
    (zgI r h x 6 17).bind fun v3 =>
    (zaI r h v1 (v2 + v3)).bind fun v4 =>
    some (some (.int v4), h)) := zblk r [] 12 _ _ _ _ _
set_option maxRecDepth 100000 in
theorem E_X6_skip_0 (r : zE) (h : zH) (x : Nat) : zev r i_X6_skip 0 [some (.ref x)] [] h =
    ((zgI r h x 6 17).bind fun v1 =>
    (zgI r h x 6 18).bind fun v2 =>
    if v1 < v2 then
      if zob r h x 6 = true then
      (zcI (zev r i_X6_here 0 [some (.ref x)] [] h) fun v3 h1 =>
      if v3 = (32 : Int32) then
        (zgI r h1 x 6 17).bind fun v4 =>
        (zpF r h1 x 6 17 (.int (v4 + (1 : Int32)))).bind fun h2 =>
        zev r i_X6_skip 0 [some (.ref x)] [] h2
      else
        some (none, h1))
      else none
    else
      some (none, h)) := zblk r [0] 20 _ _ _ _ _
set_option maxRecDepth 100000 in
theorem E_X6_figure_0 (r : zE) (h : zH) (x : Nat) (i1 : Int32) (i2 : Int32) : zev r i_X6_figure 0 [some (.ref x), some (.int i1), some (.int i2)] [] h =
    ((zgI r h x 6 17).bind fun v1 =>
    (zgI r h x 6 18).bind fun v2 =>
    if v1 = v2 then
      some (some (.int (-9 : Int32)), h)
    else
      if zob r h x 6 = true then
      (zcI (zev r i_X6_here 0 [some (.ref x)] [] h) fun v3 h1 =>
      zcI (zev r i_X6_in 0 [some (.long v3.toInt64), none, some (.long (((48 : Int32) + i1).toInt64)), none, some (.long (((48 : Int32) + i2).toInt64)), none] [] h1) fun v4 h2 =>
      if v4 = 0 then
        some (some (.int (-9 : Int32)), h2)
      else
        (zgI r h2 x 6 17).bind fun v5 =>
        (zpF r h2 x 6 17 (.int (v5 + (1 : Int32)))).bind fun h3 =>
        (zgR r h3 x 6 10).bind fun v6 =>
        (zgI r h3 x 6 16).bind fun v7 =>
        (zgI r h3 x 6 17).bind fun v8 =>
        (zaI r h3 v6 ((v7 + v8) - (1 : Int32))).bind fun v9 =>
        some (some (.int (v9 - (48 : Int32))), h3))
      else none) := zblk r [] 42 _ _ _ _ _
set_option maxRecDepth 100000 in
theorem E_X6_placeOfLetter_0 (r : zE) (h : zH) (i1 : Int32) : zev r i_X6_placeOfLetter 0 [some (.int i1)] [] h =
    (if i1 = (46 : Int32) then
      some (some (.int (0 : Int32)), h)
    else
      if i1 = (100 : Int32) then
        some (some (.int (1 : Int32)), h)
      else
        if i1 = (108 : Int32) then
          some (some (.int (2 : Int32)), h)
        else
          if i1 = (117 : Int32) then
            some (some (.int (3 : Int32)), h)
          else
            if i1 = (103 : Int32) then
              some (some (.int (4 : Int32)), h)
            else
              some (some (.int (-9 : Int32)), h)) := zblk r [] 30 _ _ _ _ _
set_option maxRecDepth 100000 in
theorem E_X6_kindOfLetter_0 (r : zE) (h : zH) (i1 : Int32) : zev r i_X6_kindOfLetter 0 [some (.int i1)] [] h =
    (if i1 = (109 : Int32) then
      some (some (.int (0 : Int32)), h)
    else
      if i1 = (116 : Int32) then
        some (some (.int (1 : Int32)), h)
      else
        if i1 = (115 : Int32) then
          some (some (.int (2 : Int32)), h)
        else
          if i1 = (102 : Int32) then
            some (some (.int (3 : Int32)), h)
          else
            if i1 = (110 : Int32) then
              some (some (.int (4 : Int32)), h)
            else
              if i1 = (105 : Int32) then
                some (some (.int (5 : Int32)), h)
              else
                some (some (.int (-9 : Int32)), h)) := zblk r [] 35 _ _ _ _ _
set_option maxRecDepth 100000 in
theorem E_X6_readsHooks_0 (r : zE) (h : zH) (x : Nat) : zev r i_X6_readsHooks 0 [some (.ref x)] [] h =
    (if zob r h x 6 = true then
    (zcV (zev r i_X6_skip 0 [some (.ref x)] [] h) fun h1 =>
    (zgI r h1 x 6 17).bind fun v1 =>
    (zgI r h1 x 6 18).bind fun v2 =>
    if v1 = v2 then
      some (some (.int (0 : Int32)), h1)
    else
      if zob r h1 x 6 = true then
      (zcI (zev r i_X6_here 0 [some (.ref x)] [] h1) fun v3 h2 =>
      if v3 = (107 : Int32) then
        (zgI r h2 x 6 17).bind fun v4 =>
        (zpF r h2 x 6 17 (.int (v4 + (1 : Int32)))).bind fun h3 =>
        zev r i_X6_readsHooks 36 [some (.ref x)] [] h3
      else
        some (some (.int (0 : Int32)), h2))
      else none)
    else none) := zblk r [36] 67 _ _ _ _ _
set_option maxRecDepth 100000 in
theorem E_X6_readsHooks_36 (r : zE) (h : zH) (x : Nat) : zev r i_X6_readsHooks 36 [some (.ref x)] [] h =
    ((zgI r h x 6 17).bind fun v1 =>
    (zgI r h x 6 18).bind fun v2 =>
    if v1 < v2 then
      if zob r h x 6 = true then
      (zcI (zev r i_X6_here 0 [some (.ref x)] [] h) fun v3 h1 =>
      zcI (zev r i_X6_placeOfLetter 0 [some (.int v3)] [] h1) fun v4 h2 =>
      if v4 = (-9 : Int32) then
        (zgI r h2 x 6 20).bind fun v5 =>
        if (1 : Int32) < v5 then
          some (some (.int (1 : Int32)), h2)
        else
          some (some (.int (0 : Int32)), h2)
      else
        (zgI r h2 x 6 20).bind fun v6 =>
        if v6 = (7 : Int32) then
          some (some (.int (0 : Int32)), h2)
        else
          (zgR r h2 x 6 19).bind fun v7 =>
          (zgI r h2 x 6 20).bind fun v8 =>
          if zob r h2 x 6 = true then
          (zcI (zev r i_X6_here 0 [some (.ref x)] [] h2) fun v9 h3 =>
          zcI (zev r i_X6_placeOfLetter 0 [some (.int v9)] [] h3) fun v10 h4 =>
          (zsI r h4 v7 v8 v10).bind fun h5 =>
          (zgI r h5 x 6 20).bind fun v11 =>
          (zpF r h5 x 6 20 (.int (v11 + (1 : Int32)))).bind fun h6 =>
          (zgI r h6 x 6 17).bind fun v12 =>
          (zpF r h6 x 6 17 (.int (v12 + (1 : Int32)))).bind fun h7 =>
          zev r i_X6_readsHooks 36 [some (.ref x)] [] h7)
          else none)
      else none
    else
      (zgI r h x 6 20).bind fun v13 =>
      if (1 : Int32) < v13 then
        some (some (.int (1 : Int32)), h)
      else
        some (some (.int (0 : Int32)), h)) := zblk r [36] 67 _ _ _ _ _
set_option maxRecDepth 100000 in
theorem E_X6_readsMan_0 (r : zE) (h : zH) (x : Nat) : zev r i_X6_readsMan 0 [some (.ref x), none, none, none, none] [] h =
    (if zob r h x 6 = true then
    (zcI (zev r i_X6_here 0 [some (.ref x)] [] h) fun v1 h1 =>
    zcI (zev r i_X6_kindOfLetter 0 [some (.int v1)] [] h1) fun v2 h2 =>
    if v2 = (-9 : Int32) then
      some (some (.int (0 : Int32)), h2)
    else
      (zgI r h2 x 6 22).bind fun v3 =>
      if v3 = (6 : Int32) then
        some (some (.int (0 : Int32)), h2)
      else
        (zgI r h2 x 6 22).bind fun v4 =>
        (zgI r h2 x 6 20).bind fun v5 =>
        if v4 = v5 then
          some (some (.int (0 : Int32)), h2)
        else
          (zgI r h2 x 6 17).bind fun v6 =>
          (zpF r h2 x 6 17 (.int (v6 + (1 : Int32)))).bind fun h3 =>
          if zob r h3 x 6 = true then
          (zcI (zev r i_X6_figure 0 [some (.ref x), some (.int (1 : Int32)), some (.int (9 : Int32))] [] h3) fun v7 h4 =>
          if v7 = (-9 : Int32) then
            if (-9 : Int32) = (-9 : Int32) then
              zev r i_X6_readsMan 89 [some (.ref x), some (.int v2), some (.int v7), some (.int (-9 : Int32)), none] [.int (-9 : Int32)] h4
            else
              if zob r h4 x 6 = true then
              (zcI (zev r i_X6_figure 0 [some (.ref x), some (.int (0 : Int32)), some (.int (3 : Int32))] [] h4) fun v8 h5 =>
              zev r i_X6_readsMan 89 [some (.ref x), some (.int v2), some (.int v7), some (.int (-9 : Int32)), none] [.int v8] h5)
              else none
          else
            if zob r h4 x 6 = true then
            (zcI (zev r i_X6_figure 0 [some (.ref x), some (.int (0 : Int32)), some (.int (1 : Int32))] [] h4) fun v9 h6 =>
            if v9 = (-9 : Int32) then
              zev r i_X6_readsMan 89 [some (.ref x), some (.int v2), some (.int v7), some (.int v9), none] [.int (-9 : Int32)] h6
            else
              if zob r h6 x 6 = true then
              (zcI (zev r i_X6_figure 0 [some (.ref x), some (.int (0 : Int32)), some (.int (3 : Int32))] [] h6) fun v10 h7 =>
              zev r i_X6_readsMan 89 [some (.ref x), some (.int v2), some (.int v7), some (.int v9), none] [.int v10] h7)
              else none)
            else none)
          else none)
    else none) := zblk r [89] 103 _ _ _ _ _
set_option maxRecDepth 100000 in
theorem E_X6_readsMan_89 (r : zE) (h : zH) (x : Nat) (l1 : Int32) (l2 : Int32) (l3 : Int32) (s0 : Int32) : zev r i_X6_readsMan 89 [some (.ref x), some (.int l1), some (.int l2), some (.int l3), none] [.int s0] h =
    (if s0 = (-9 : Int32) then
      some (some (.int (0 : Int32)), h)
    else
      (zgR r h x 6 21).bind fun v1 =>
      (zgI r h x 6 22).bind fun v2 =>
      (zsI r h v1 ((4 : Int32) * v2) l1).bind fun h1 =>
      (zgR r h1 x 6 21).bind fun v3 =>
      (zgI r h1 x 6 22).bind fun v4 =>
      (zsI r h1 v3 (((4 : Int32) * v4) + (1 : Int32)) l2).bind fun h2 =>
      (zgR r h2 x 6 21).bind fun v5 =>
      (zgI r h2 x 6 22).bind fun v6 =>
      (zsI r h2 v5 (((4 : Int32) * v6) + (2 : Int32)) l3).bind fun h3 =>
      (zgR r h3 x 6 21).bind fun v7 =>
      (zgI r h3 x 6 22).bind fun v8 =>
      (zsI r h3 v7 (((4 : Int32) * v8) + (3 : Int32)) s0).bind fun h4 =>
      (zgI r h4 x 6 22).bind fun v9 =>
      (zpF r h4 x 6 22 (.int (v9 + (1 : Int32)))).bind fun h5 =>
      some (some (.int (1 : Int32)), h5)) := zblk r [89] 103 _ _ _ _ _
set_option maxRecDepth 100000 in
theorem E_X6_faultOf_0 (r : zE) (h : zH) (x : Nat) (i1 : Int32) : zev r i_X6_faultOf 0 [some (.ref x), some (.int i1), none] [] h =
    ((zpF r h x 6 16 (.int ((60 : Int32) * i1))).bind fun h1 =>
    (zpF r h1 x 6 17 (.int (0 : Int32))).bind fun h2 =>
    (zgR r h2 x 6 9).bind fun v1 =>
    (zaI r h2 v1 i1).bind fun v2 =>
    (zpF r h2 x 6 18 (.int v2)).bind fun h3 =>
    (zpF r h3 x 6 20 (.int (0 : Int32))).bind fun h4 =>
    (zpF r h4 x 6 22 (.int (0 : Int32))).bind fun h5 =>
    if zob r h5 x 6 = true then
    (zcI (zev r i_X6_readsHooks 0 [some (.ref x)] [] h5) fun v3 h6 =>
    if v3 = 0 then
      zev r i_X6_faultOf 46 [some (.ref x), some (.int i1), some (.int v3)] [] h6
    else
      if zob r h6 x 6 = true then
      (zcV (zev r i_X6_skip 0 [some (.ref x)] [] h6) fun h7 =>
      zev r i_X6_faultOf 46 [some (.ref x), some (.int i1), some (.int v3)] [] h7)
      else none)
    else none) := zblk r [46] 55 _ _ _ _ _
set_option maxRecDepth 100000 in
theorem E_X6_faultOf_46 (r : zE) (h : zH) (x : Nat) (l1 : Int32) (l2 : Int32) : zev r i_X6_faultOf 46 [some (.ref x), some (.int l1), some (.int l2)] [] h =
    (if l2 = 0 then
      if l2 = 0 then
        (zgI r h x 6 17).bind fun v1 =>
        some (some (.int v1), h)
      else
        (zgI r h x 6 22).bind fun v2 =>
        if 0 < v2 then
          some (some (.int (-9 : Int32)), h)
        else
          (zgI r h x 6 17).bind fun v3 =>
          some (some (.int v3), h)
    else
      (zgI r h x 6 17).bind fun v4 =>
      (zgI r h x 6 18).bind fun v5 =>
      if v4 < v5 then
        if zob r h x 6 = true then
        (zcI (zev r i_X6_readsMan 0 [some (.ref x), none, none, none, none] [] h) fun v6 h1 =>
        if v6 = 0 then
          zev r i_X6_faultOf 46 [some (.ref x), some (.int l1), some (.int v6)] [] h1
        else
          if zob r h1 x 6 = true then
          (zcV (zev r i_X6_skip 0 [some (.ref x)] [] h1) fun h2 =>
          zev r i_X6_faultOf 46 [some (.ref x), some (.int l1), some (.int v6)] [] h2)
          else none)
        else none
      else
        if l2 = 0 then
          (zgI r h x 6 17).bind fun v7 =>
          some (some (.int v7), h)
        else
          (zgI r h x 6 22).bind fun v8 =>
          if 0 < v8 then
            some (some (.int (-9 : Int32)), h)
          else
            (zgI r h x 6 17).bind fun v9 =>
            some (some (.int v9), h)) := zblk r [46] 55 _ _ _ _ _
set_option maxRecDepth 100000 in
theorem E_X6_fault_0 (r : zE) (h : zH) (x : Nat) (i1 : Int32) : zev r i_X6_fault 0 [some (.ref x), some (.int i1)] [] h =
    (zcI (zev r i_X6_isText 0 [some (.int i1)] [] h) fun v1 h1 =>
    if v1 = 0 then
      some (some (.int (-1 : Int32)), h1)
    else
      (zgR r h1 x 6 9).bind fun v2 =>
      (zaI r h1 v2 i1).bind fun v3 =>
      if v3 < 0 then
        if zob r h1 x 6 = true then
        (zcI (zev r i_X6_find 0 [some (.ref x), some (.int (1 : Int32))] [] h1) fun v4 h2 =>
        some (some (.int v4), h2))
        else none
      else
        if zob r h1 x 6 = true then
        (zcI (zev r i_X6_faultOf 0 [some (.ref x), some (.int i1), none] [] h1) fun v5 h3 =>
        some (some (.int v5), h3))
        else none) := zblk r [] 21 _ _ _ _ _
set_option maxRecDepth 100000 in
theorem E_X6_deck_0 (r : zE) (h : zH) (x : Nat) (i1 : Int32) : zev r i_X6_deck 0 [some (.ref x), some (.int i1), none, none] [] h =
    (zcI (zev r i_X6_isText 0 [some (.int i1)] [] h) fun v1 h1 =>
    if v1 = 0 then
      some (some (.int (-1 : Int32)), h1)
    else
      (zgR r h1 x 6 9).bind fun v2 =>
      (zaI r h1 v2 i1).bind fun v3 =>
      if v3 < 0 then
        if zob r h1 x 6 = true then
        (zcI (zev r i_X6_find 0 [some (.ref x), some (.int (1 : Int32))] [] h1) fun v4 h2 =>
        some (some (.int v4), h2))
        else none
      else
        if zob r h1 x 6 = true then
        (zcI (zev r i_X6_faultOf 0 [some (.ref x), some (.int i1), none] [] h1) fun v5 h3 =>
        if v5 = (-9 : Int32) then
          (zgI r h3 x 6 20).bind fun v6 =>
          (zpF r h3 x 6 1 (.int v6)).bind fun h4 =>
          (zgI r h4 x 6 22).bind fun v7 =>
          (zpF r h4 x 6 3 (.int v7)).bind fun h5 =>
          zev r i_X6_deck 55 [some (.ref x), some (.int i1), some (.int (0 : Int32)), none] [] h5
        else
          some (some (.int (-4 : Int32)), h3))
        else none) := zblk r [55, 83, 105, 146, 170, 194, 221, 248] 169 _ _ _ _ _
set_option maxRecDepth 100000 in
theorem E_X6_deck_55 (r : zE) (h : zH) (x : Nat) (l1 : Int32) (l2 : Int32) : zev r i_X6_deck 55 [some (.ref x), some (.int l1), some (.int l2), none] [] h =
    ((zgI r h x 6 1).bind fun v1 =>
    if l2 < v1 then
      (zgR r h x 6 2).bind fun v2 =>
      (zgR r h x 6 19).bind fun v3 =>
      (zaI r h v3 l2).bind fun v4 =>
      (zsI r h v2 l2 v4).bind fun h1 =>
      zev r i_X6_deck 55 [some (.ref x), some (.int l1), some (.int (l2 + (1 : Int32))), none] [] h1
    else
      zev r i_X6_deck 83 [some (.ref x), some (.int l1), some (.int (0 : Int32)), none] [] h) := zblk r [55, 83, 105, 146, 170, 194, 221, 248] 169 _ _ _ _ _
set_option maxRecDepth 100000 in
theorem E_X6_deck_83 (r : zE) (h : zH) (x : Nat) (l1 : Int32) (l2 : Int32) : zev r i_X6_deck 83 [some (.ref x), some (.int l1), some (.int l2), none] [] h =
    (if l2 < (1099 : Int32) then
      (zgR r h x 6 0).bind fun v1 =>
      (zsI r h v1 l2 (0 : Int32)).bind fun h1 =>
      zev r i_X6_deck 83 [some (.ref x), some (.int l1), some (.int (l2 + (1 : Int32))), none] [] h1
    else
      zev r i_X6_deck 105 [some (.ref x), some (.int l1), some (.int (0 : Int32)), none] [] h) := zblk r [55, 83, 105, 146, 170, 194, 221, 248] 169 _ _ _ _ _
set_option maxRecDepth 100000 in
theorem E_X6_deck_105 (r : zE) (h : zH) (x : Nat) (l1 : Int32) (l2 : Int32) : zev r i_X6_deck 105 [some (.ref x), some (.int l1), some (.int l2), none] [] h =
    (if l2 < (6 : Int32) then
      (zgI r h x 6 3).bind fun v1 =>
      if l2 < v1 then
        (zgR r h x 6 4).bind fun v2 =>
        if (1 : Int32) = 0 then
          zev r i_X6_deck 146 [some (.ref x), some (.int l1), some (.int l2), some (.int (1 : Int32))] [.int (0 : Int32), .int l2, .ref v2] h
        else
          (zgR r h x 6 21).bind fun v3 =>
          (zaI r h v3 ((4 : Int32) * l2)).bind fun v4 =>
          zev r i_X6_deck 146 [some (.ref x), some (.int l1), some (.int l2), some (.int (1 : Int32))] [.int v4, .int l2, .ref v2] h
      else
        (zgR r h x 6 4).bind fun v5 =>
        if (0 : Int32) = 0 then
          zev r i_X6_deck 146 [some (.ref x), some (.int l1), some (.int l2), some (.int (0 : Int32))] [.int (0 : Int32), .int l2, .ref v5] h
        else
          (zgR r h x 6 21).bind fun v6 =>
          (zaI r h v6 ((4 : Int32) * l2)).bind fun v7 =>
          zev r i_X6_deck 146 [some (.ref x), some (.int l1), some (.int l2), some (.int (0 : Int32))] [.int v7, .int l2, .ref v5] h
    else
      zev r i_X6_deck 248 [some (.ref x), some (.int l1), some (.int (1 : Int32)), none] [] h) := zblk r [55, 83, 105, 146, 170, 194, 221, 248] 169 _ _ _ _ _
set_option maxRecDepth 100000 in
theorem E_X6_deck_146 (r : zE) (h : zH) (x : Nat) (l1 : Int32) (l2 : Int32) (l3 : Int32) (s0 : Int32) (s1 : Int32) (s2 : Nat) : zev r i_X6_deck 146 [some (.ref x), some (.int l1), some (.int l2), some (.int l3)] [.int s0, .int s1, .ref s2] h =
    ((zsI r h s2 s1 s0).bind fun h1 =>
    (zgR r h1 x 6 5).bind fun v1 =>
    if l3 = 0 then
      zev r i_X6_deck 170 [some (.ref x), some (.int l1), some (.int l2), some (.int l3)] [.int (0 : Int32), .int l2, .ref v1] h1
    else
      (zgR r h1 x 6 21).bind fun v2 =>
      (zaI r h1 v2 (((4 : Int32) * l2) + (2 : Int32))).bind fun v3 =>
      zev r i_X6_deck 170 [some (.ref x), some (.int l1), some (.int l2), some (.int l3)] [.int v3, .int l2, .ref v1] h1) := zblk r [55, 83, 105, 146, 170, 194, 221, 248] 169 _ _ _ _ _
set_option maxRecDepth 100000 in
theorem E_X6_deck_248 (r : zE) (h : zH) (x : Nat) (l1 : Int32) (l2 : Int32) : zev r i_X6_deck 248 [some (.ref x), some (.int l1), some (.int l2), none] [] h =
    (if l2 < (4 : Int32) then
      (zgR r h x 6 0).bind fun v1 =>
      (zsI r h v1 (((1099 : Int32) * l2) + (0 : Int32)) (-1 : Int32)).bind fun h1 =>
      zev r i_X6_deck 248 [some (.ref x), some (.int l1), some (.int (l2 + (1 : Int32))), none] [] h1
    else
      (zgI r h x 6 3).bind fun v2 =>
      some (some (.int v2), h)) := zblk r [55, 83, 105, 146, 170, 194, 221, 248] 169 _ _ _ _ _
set_option maxRecDepth 100000 in
theorem E_X6_deck_170 (r : zE) (h : zH) (x : Nat) (l1 : Int32) (l2 : Int32) (l3 : Int32) (s0 : Int32) (s1 : Int32) (s2 : Nat) : zev r i_X6_deck 170 [some (.ref x), some (.int l1), some (.int l2), some (.int l3)] [.int s0, .int s1, .ref s2] h =
    ((zsI r h s2 s1 s0).bind fun h1 =>
    (zgR r h1 x 6 6).bind fun v1 =>
    if l3 = 0 then
      zev r i_X6_deck 194 [some (.ref x), some (.int l1), some (.int l2), some (.int l3)] [.int (0 : Int32), .int l2, .ref v1] h1
    else
      (zgR r h1 x 6 21).bind fun v2 =>
      (zaI r h1 v2 (((4 : Int32) * l2) + (3 : Int32))).bind fun v3 =>
      zev r i_X6_deck 194 [some (.ref x), some (.int l1), some (.int l2), some (.int l3)] [.int v3, .int l2, .ref v1] h1) := zblk r [55, 83, 105, 146, 170, 194, 221, 248] 169 _ _ _ _ _
set_option maxRecDepth 100000 in
theorem E_X6_deck_194 (r : zE) (h : zH) (x : Nat) (l1 : Int32) (l2 : Int32) (l3 : Int32) (s0 : Int32) (s1 : Int32) (s2 : Nat) : zev r i_X6_deck 194 [some (.ref x), some (.int l1), some (.int l2), some (.int l3)] [.int s0, .int s1, .ref s2] h =
    ((zsI r h s2 s1 s0).bind fun h1 =>
    (zgR r h1 x 6 0).bind fun v1 =>
    if l3 = 0 then
      zev r i_X6_deck 221 [some (.ref x), some (.int l1), some (.int l2), some (.int l3)] [.int (0 : Int32), .int ((7 : Int32) + l2), .ref v1] h1
    else
      (zgR r h1 x 6 21).bind fun v2 =>
      (zaI r h1 v2 (((4 : Int32) * l2) + (1 : Int32))).bind fun v3 =>
      zev r i_X6_deck 221 [some (.ref x), some (.int l1), some (.int l2), some (.int l3)] [.int v3, .int ((7 : Int32) + l2), .ref v1] h1) := zblk r [55, 83, 105, 146, 170, 194, 221, 248] 169 _ _ _ _ _
set_option maxRecDepth 100000 in
theorem E_X6_deck_221 (r : zE) (h : zH) (x : Nat) (l1 : Int32) (l2 : Int32) (l3 : Int32) (s0 : Int32) (s1 : Int32) (s2 : Nat) : zev r i_X6_deck 221 [some (.ref x), some (.int l1), some (.int l2), some (.int l3)] [.int s0, .int s1, .ref s2] h =
    ((zsI r h s2 s1 s0).bind fun h1 =>
    (zgR r h1 x 6 0).bind fun v1 =>
    if l3 = 0 then
      (zsI r h1 v1 ((1 : Int32) + l2) (-9 : Int32)).bind fun h2 =>
      zev r i_X6_deck 105 [some (.ref x), some (.int l1), some (.int (l2 + (1 : Int32))), none] [] h2
    else
      (zsI r h1 v1 ((1 : Int32) + l2) l2).bind fun h3 =>
      zev r i_X6_deck 105 [some (.ref x), some (.int l1), some (.int (l2 + (1 : Int32))), none] [] h3) := zblk r [55, 83, 105, 146, 170, 194, 221, 248] 169 _ _ _ _ _
set_option maxRecDepth 100000 in
theorem E_X6_layNow_0 (r : zE) (h : zH) (x : Nat) : zev r i_X6_layNow 0 [some (.ref x), none] [] h =
    (zev r i_X6_layNow 2 [some (.ref x), some (.int (0 : Int32))] [] h) := zblk r [2] 31 _ _ _ _ _
set_option maxRecDepth 100000 in
theorem E_X6_layNow_2 (r : zE) (h : zH) (x : Nat) (l1 : Int32) : zev r i_X6_layNow 2 [some (.ref x), some (.int l1)] [] h =
    (if l1 < (6 : Int32) then
      (zgR r h x 6 23).bind fun v1 =>
      (zgR r h x 6 0).bind fun v2 =>
      (zaI r h v2 ((1 : Int32) + l1)).bind fun v3 =>
      (zsI r h v1 l1 v3).bind fun h1 =>
      (zgR r h1 x 6 24).bind fun v4 =>
      (zgR r h1 x 6 0).bind fun v5 =>
      (zaI r h1 v5 ((7 : Int32) + l1)).bind fun v6 =>
      (zsI r h1 v4 l1 v6).bind fun h2 =>
      zev r i_X6_layNow 2 [some (.ref x), some (.int (l1 + (1 : Int32)))] [] h2
    else
      some (none, h)) := zblk r [2] 31 _ _ _ _ _
set_option maxRecDepth 100000 in
theorem E_X6_isMan_0 (r : zE) (h : zH) (x : Nat) (i1 : Int32) : zev r i_X6_isMan 0 [some (.ref x), some (.int i1)] [] h =
    ((zgI r h x 6 3).bind fun v1 =>
    zcI (zev r i_X6_in 0 [some (.long i1.toInt64), none, some (.long (0 : Int64)), none, some (.long ((v1 - (1 : Int32)).toInt64)), none] [] h) fun v2 h1 =>
    if v2 = 0 ∨ v2 = 1 then some (some (.int v2), h1) else none) := zblk r [] 13 _ _ _ _ _
set_option maxRecDepth 100000 in
theorem E_X6_isHook_0 (r : zE) (h : zH) (x : Nat) (i1 : Int32) : zev r i_X6_isHook 0 [some (.ref x), some (.int i1)] [] h =
    ((zgI r h x 6 1).bind fun v1 =>
    zcI (zev r i_X6_in 0 [some (.long i1.toInt64), none, some (.long (0 : Int64)), none, some (.long ((v1 - (1 : Int32)).toInt64)), none] [] h) fun v2 h1 =>
    if v2 = 0 ∨ v2 = 1 then some (some (.int v2), h1) else none) := zblk r [] 13 _ _ _ _ _
set_option maxRecDepth 100000 in
theorem E_X6_isWhen_0 (r : zE) (h : zH) (i1 : Int32) : zev r i_X6_isWhen 0 [some (.int i1)] [] h =
    (zcI (zev r i_X6_in 0 [some (.long i1.toInt64), none, some (.long (0 : Int64)), none, some (.long (2 : Int64)), none] [] h) fun v1 h1 =>
    if v1 = 0 ∨ v1 = 1 then some (some (.int v1), h1) else none) := zblk r [] 9 _ _ _ _ _
set_option maxRecDepth 100000 in
theorem E_X6_isIn_0 (r : zE) (h : zH) (x : Nat) (i1 : Int32) (i2 : Int32) : zev r i_X6_isIn 0 [some (.ref x), some (.int i1), some (.int i2)] [] h =
    ((zgR r h x 6 23).bind fun v1 =>
    (zaI r h v1 i1).bind fun v2 =>
    if v2 = (-9 : Int32) then
      some (some (.int (0 : Int32)), h)
    else
      if i2 = 0 then
        some (some (.int (1 : Int32)), h)
      else
        (zgR r h x 6 5).bind fun v3 =>
        (zaI r h v3 i1).bind fun v4 =>
        if v4 = (i2 - (1 : Int32)) then
          some (some (.int (0 : Int32)), h)
        else
          some (some (.int (1 : Int32)), h)) := zblk r [] 23 _ _ _ _ _
set_option maxRecDepth 100000 in
theorem E_X6_isBeside_0 (r : zE) (h : zH) (x : Nat) (i1 : Int32) (i2 : Int32) (i3 : Int32) : zev r i_X6_isBeside 0 [some (.ref x), some (.int i1), some (.int i2), some (.int i3), none] [] h =
    ((zgR r h x 6 23).bind fun v1 =>
    (zaI r h v1 i1).bind fun v2 =>
    (zgR r h x 6 23).bind fun v3 =>
    (zaI r h v3 i2).bind fun v4 =>
    (zgR r h x 6 23).bind fun v5 =>
    (zaI r h v5 i2).bind fun v6 =>
    if v6 = (-9 : Int32) then
      some (some (.int (0 : Int32)), h)
    else
      if zob r h x 6 = true then
      (zcI (zev r i_X6_isIn 0 [some (.ref x), some (.int i1), some (.int i3)] [] h) fun v7 h1 =>
      if v7 = 0 then
        some (some (.int (0 : Int32)), h1)
      else
        if (v2 - v4) = (1 : Int32) then
          some (some (.int (1 : Int32)), h1)
        else
          if (v2 - v4) = (-1 : Int32) then
            some (some (.int (1 : Int32)), h1)
          else
            some (some (.int (0 : Int32)), h1))
      else none) := zblk r [] 34 _ _ _ _ _
set_option maxRecDepth 100000 in
theorem E_X6_beside_0 (r : zE) (h : zH) (x : Nat) (i1 : Int32) (i2 : Int32) : zev r i_X6_beside 0 [some (.ref x), some (.int i1), some (.int i2), none, none] [] h =
    (zev r i_X6_beside 5 [some (.ref x), some (.int i1), some (.int i2), some (.int (0 : Int32)), some (.int (0 : Int32))] [] h) := zblk r [5] 29 _ _ _ _ _
set_option maxRecDepth 100000 in
theorem E_X6_beside_5 (r : zE) (h : zH) (x : Nat) (l1 : Int32) (l2 : Int32) (l3 : Int32) (l4 : Int32) : zev r i_X6_beside 5 [some (.ref x), some (.int l1), some (.int l2), some (.int l3), some (.int l4)] [] h =
    ((zgI r h x 6 3).bind fun v1 =>
    if l4 < v1 then
      if zob r h x 6 = true then
      (zcI (zev r i_X6_isBeside 0 [some (.ref x), some (.int l4), some (.int l1), some (.int l2), none] [] h) fun v2 h1 =>
      if v2 = 0 then
        zev r i_X6_beside 5 [some (.ref x), some (.int l1), some (.int l2), some (.int (l3 ||| (0 : Int32))), some (.int (l4 + (1 : Int32)))] [] h1
      else
        zev r i_X6_beside 5 [some (.ref x), some (.int l1), some (.int l2), some (.int (l3 ||| ((1 : Int32) <<< (l4 &&& 31)))), some (.int (l4 + (1 : Int32)))] [] h1)
      else none
    else
      some (some (.int l3), h)) := zblk r [5] 29 _ _ _ _ _
set_option maxRecDepth 100000 in
theorem E_X6_height_0 (r : zE) (h : zH) (i1 : Int32) : zev r i_X6_height 0 [some (.int i1)] [] h =
    (if i1 = (4 : Int32) then
      some (some (.int (2 : Int32)), h)
    else
      if i1 = (1 : Int32) then
        some (some (.int (1 : Int32)), h)
      else
        some (some (.int (0 : Int32)), h)) := zblk r [] 15 _ _ _ _ _
set_option maxRecDepth 100000 in
theorem E_X6_wakes_0 (r : zE) (h : zH) (x : Nat) (i1 : Int32) (i2 : Int32) : zev r i_X6_wakes 0 [some (.ref x), some (.int i1), some (.int i2), none] [] h =
    ((zgR r h x 6 24).bind fun v1 =>
    (zaI r h v1 i1).bind fun v2 =>
    (zgR r h x 6 24).bind fun v3 =>
    (zaI r h v3 i2).bind fun v4 =>
    if v4 < v2 then
      (zgR r h x 6 24).bind fun v5 =>
      (zaI r h v5 i1).bind fun v6 =>
      (zgR r h x 6 24).bind fun v7 =>
      (zaI r h v7 i2).bind fun v8 =>
      zev r i_X6_wakes 44 [some (.ref x), some (.int i1), some (.int i2), none] [.int (v6 - v8)] h
    else
      (zgR r h x 6 24).bind fun v9 =>
      (zaI r h v9 i2).bind fun v10 =>
      (zgR r h x 6 24).bind fun v11 =>
      (zaI r h v11 i1).bind fun v12 =>
      zev r i_X6_wakes 44 [some (.ref x), some (.int i1), some (.int i2), none] [.int (v10 - v12)] h) := zblk r [44] 62 _ _ _ _ _
set_option maxRecDepth 100000 in
theorem E_X6_wakes_44 (r : zE) (h : zH) (x : Nat) (l1 : Int32) (l2 : Int32) (s0 : Int32) : zev r i_X6_wakes 44 [some (.ref x), some (.int l1), some (.int l2), none] [.int s0] h =
    ((zgR r h x 6 4).bind fun v1 =>
    (zaI r h v1 l1).bind fun v2 =>
    zcI (zev r i_X6_height 0 [some (.int v2)] [] h) fun v3 h1 =>
    (zgR r h1 x 6 4).bind fun v4 =>
    (zaI r h1 v4 l2).bind fun v5 =>
    zcI (zev r i_X6_height 0 [some (.int v5)] [] h1) fun v6 h2 =>
    (zgR r h2 x 6 4).bind fun v7 =>
    (zaI r h2 v7 l1).bind fun v8 =>
    if v8 = (2 : Int32) then
      (zgR r h2 x 6 4).bind fun v9 =>
      (zaI r h2 v9 l2).bind fun v10 =>
      if v10 = (3 : Int32) then
        some (some (.int (((s0 + v3) + v6) + (0 : Int32))), h2)
      else
        some (some (.int (((s0 + v3) + v6) + (2 : Int32))), h2)
    else
      some (some (.int (((s0 + v3) + v6) + (0 : Int32))), h2)) := zblk r [44] 62 _ _ _ _ _
set_option maxRecDepth 100000 in
theorem E_X6_placeWorth_0 (r : zE) (h : zH) (i1 : Int32) : zev r i_X6_placeWorth 0 [some (.int i1)] [] h =
    (if i1 = (1 : Int32) then
      some (some (.int (1 : Int32)), h)
    else
      if i1 = (2 : Int32) then
        some (some (.int (3 : Int32)), h)
      else
        if i1 = (3 : Int32) then
          some (some (.int (2 : Int32)), h)
        else
          if i1 = (4 : Int32) then
            some (some (.int (-1 : Int32)), h)
          else
            some (some (.int (0 : Int32)), h)) := zblk r [] 25 _ _ _ _ _
set_option maxRecDepth 100000 in
theorem E_X6_wokenBut_0 (r : zE) (h : zH) (x : Nat) (i1 : Int32) (i2 : Int32) (i3 : Int32) : zev r i_X6_wokenBut 0 [some (.ref x), some (.int i1), some (.int i2), some (.int i3), none, none] [] h =
    (if zob r h x 6 = true then
    (zcI (zev r i_X6_isIn 0 [some (.ref x), some (.int i1), some (.int i2)] [] h) fun v1 h1 =>
    if v1 = 0 then
      some (some (.int (0 : Int32)), h1)
    else
      (zgR r h1 x 6 2).bind fun v2 =>
      (zgR r h1 x 6 23).bind fun v3 =>
      (zaI r h1 v3 i1).bind fun v4 =>
      (zaI r h1 v2 v4).bind fun v5 =>
      zcI (zev r i_X6_placeWorth 0 [some (.int v5)] [] h1) fun v6 h2 =>
      zev r i_X6_wokenBut 30 [some (.ref x), some (.int i1), some (.int i2), some (.int i3), some (.int v6), some (.int (0 : Int32))] [] h2)
    else none) := zblk r [30] 63 _ _ _ _ _
set_option maxRecDepth 100000 in
theorem E_X6_wokenBut_30 (r : zE) (h : zH) (x : Nat) (l1 : Int32) (l2 : Int32) (l3 : Int32) (l4 : Int32) (l5 : Int32) : zev r i_X6_wokenBut 30 [some (.ref x), some (.int l1), some (.int l2), some (.int l3), some (.int l4), some (.int l5)] [] h =
    ((zgI r h x 6 3).bind fun v1 =>
    if l5 < v1 then
      if l5 = l3 then
        zev r i_X6_wokenBut 30 [some (.ref x), some (.int l1), some (.int l2), some (.int l3), some (.int (l4 + (0 : Int32))), some (.int (l5 + (1 : Int32)))] [] h
      else
        if zob r h x 6 = true then
        (zcI (zev r i_X6_isBeside 0 [some (.ref x), some (.int l5), some (.int l1), some (.int l2), none] [] h) fun v2 h1 =>
        if v2 = 0 then
          zev r i_X6_wokenBut 30 [some (.ref x), some (.int l1), some (.int l2), some (.int l3), some (.int (l4 + (0 : Int32))), some (.int (l5 + (1 : Int32)))] [] h1
        else
          if zob r h1 x 6 = true then
          (zcI (zev r i_X6_wakes 0 [some (.ref x), some (.int l5), some (.int l1), none] [] h1) fun v3 h2 =>
          zev r i_X6_wokenBut 30 [some (.ref x), some (.int l1), some (.int l2), some (.int l3), some (.int (l4 + v3)), some (.int (l5 + (1 : Int32)))] [] h2)
          else none)
        else none
    else
      if l4 < 0 then
        (zgR r h x 6 4).bind fun v4 =>
        (zaI r h v4 l1).bind fun v5 =>
        if v5 = (5 : Int32) then
          some (some (.int ((2 : Int32) * (0 : Int32))), h)
        else
          some (some (.int (0 : Int32)), h)
      else
        (zgR r h x 6 4).bind fun v6 =>
        (zaI r h v6 l1).bind fun v7 =>
        if v7 = (5 : Int32) then
          some (some (.int ((2 : Int32) * l4)), h)
        else
          some (some (.int l4), h)) := zblk r [30] 63 _ _ _ _ _
set_option maxRecDepth 100000 in
theorem E_X6_allWoken_0 (r : zE) (h : zH) (x : Nat) (i1 : Int32) : zev r i_X6_allWoken 0 [some (.ref x), some (.int i1), none, none] [] h =
    (zev r i_X6_allWoken 4 [some (.ref x), some (.int i1), some (.int (0 : Int32)), some (.int (0 : Int32))] [] h) := zblk r [4] 23 _ _ _ _ _
set_option maxRecDepth 100000 in
theorem E_X6_allWoken_4 (r : zE) (h : zH) (x : Nat) (l1 : Int32) (l2 : Int32) (l3 : Int32) : zev r i_X6_allWoken 4 [some (.ref x), some (.int l1), some (.int l2), some (.int l3)] [] h =
    ((zgI r h x 6 3).bind fun v1 =>
    if l3 < v1 then
      if zob r h x 6 = true then
      (zcI (zev r i_X6_wokenBut 0 [some (.ref x), some (.int l3), some (.int l1), some (.int (-9 : Int32)), none, none] [] h) fun v2 h1 =>
      zev r i_X6_allWoken 4 [some (.ref x), some (.int l1), some (.int (l2 + v2)), some (.int (l3 + (1 : Int32)))] [] h1)
      else none
    else
      some (some (.int l2), h)) := zblk r [4] 23 _ _ _ _ _
set_option maxRecDepth 100000 in
theorem E_X6_mostWoken_0 (r : zE) (h : zH) (x : Nat) (i1 : Int32) : zev r i_X6_mostWoken 0 [some (.ref x), some (.int i1), none, none, none] [] h =
    (zev r i_X6_mostWoken 4 [some (.ref x), some (.int i1), some (.int (0 : Int32)), some (.int (0 : Int32)), none] [] h) := zblk r [4] 28 _ _ _ _ _
set_option maxRecDepth 100000 in
theorem E_X6_mostWoken_4 (r : zE) (h : zH) (x : Nat) (l1 : Int32) (l2 : Int32) (l3 : Int32) : zev r i_X6_mostWoken 4 [some (.ref x), some (.int l1), some (.int l2), some (.int l3), none] [] h =
    ((zgI r h x 6 3).bind fun v1 =>
    if l3 < v1 then
      if zob r h x 6 = true then
      (zcI (zev r i_X6_wokenBut 0 [some (.ref x), some (.int l3), some (.int l1), some (.int (-9 : Int32)), none, none] [] h) fun v2 h1 =>
      if l2 < v2 then
        zev r i_X6_mostWoken 4 [some (.ref x), some (.int l1), some (.int v2), some (.int (l3 + (1 : Int32))), none] [] h1
      else
        zev r i_X6_mostWoken 4 [some (.ref x), some (.int l1), some (.int l2), some (.int (l3 + (1 : Int32))), none] [] h1)
      else none
    else
      some (some (.int l2), h)) := zblk r [4] 28 _ _ _ _ _
set_option maxRecDepth 100000 in
theorem E_X6_toldOf_0 (r : zE) (h : zH) (x : Nat) (i1 : Int32) (i2 : Int32) : zev r i_X6_toldOf 0 [some (.ref x), some (.int i1), some (.int i2)] [] h =
    (if i2 = (0 : Int32) then
      (zgR r h x 6 4).bind fun v1 =>
      (zaI r h v1 i1).bind fun v2 =>
      some (some (.int v2), h)
    else if i2 = (1 : Int32) then
      (zgR r h x 6 0).bind fun v3 =>
      (zaI r h v3 ((7 : Int32) + i1)).bind fun v4 =>
      some (some (.int v4), h)
    else if i2 = (2 : Int32) then
      (zgR r h x 6 5).bind fun v5 =>
      (zaI r h v5 i1).bind fun v6 =>
      some (some (.int v6), h)
    else if i2 = (3 : Int32) then
      (zgR r h x 6 6).bind fun v7 =>
      (zaI r h v7 i1).bind fun v8 =>
      some (some (.int v8), h)
    else if i2 = (4 : Int32) then
      (zgR r h x 6 0).bind fun v9 =>
      (zaI r h v9 ((1 : Int32) + i1)).bind fun v10 =>
      some (some (.int v10), h)
    else (zgR r h x 6 0).bind fun v11 =>
      (zaI r h v11 ((13 : Int32) + i1)).bind fun v12 =>
      some (some (.int v12), h)) := zblk r [] 41 _ _ _ _ _
set_option maxRecDepth 100000 in
theorem E_X6_man_0 (r : zE) (h : zH) (x : Nat) (i1 : Int32) (i2 : Int32) : zev r i_X6_man 0 [some (.ref x), some (.int i1), some (.int i2)] [] h =
    (if zob r h x 6 = true then
    (zcI (zev r i_X6_isMan 0 [some (.ref x), some (.int i1)] [] h) fun v1 h1 =>
    if v1 = 0 then
      some (some (.int (-1 : Int32)), h1)
    else
      zcI (zev r i_X6_in 0 [some (.long i2.toInt64), none, some (.long (0 : Int64)), none, some (.long (5 : Int64)), none] [] h1) fun v2 h2 =>
      if v2 = 0 then
        some (some (.int (-1 : Int32)), h2)
      else
        if zob r h2 x 6 = true then
        (zcI (zev r i_X6_toldOf 0 [some (.ref x), some (.int i1), some (.int i2)] [] h2) fun v3 h3 =>
        if zob r h3 x 6 = true then
        (zcI (zev r i_X6_tell 0 [some (.ref x), some (.int v3)] [] h3) fun v4 h4 =>
        some (some (.int v4), h4))
        else none)
        else none)
    else none) := zblk r [] 22 _ _ _ _ _
set_option maxRecDepth 100000 in
theorem E_X6_whoAt_0 (r : zE) (h : zH) (x : Nat) (i1 : Int32) : zev r i_X6_whoAt 0 [some (.ref x), some (.int i1), none] [] h =
    (zev r i_X6_whoAt 2 [some (.ref x), some (.int i1), some (.int (0 : Int32))] [] h) := zblk r [2] 23 _ _ _ _ _
set_option maxRecDepth 100000 in
theorem E_X6_whoAt_2 (r : zE) (h : zH) (x : Nat) (l1 : Int32) (l2 : Int32) : zev r i_X6_whoAt 2 [some (.ref x), some (.int l1), some (.int l2)] [] h =
    ((zgI r h x 6 3).bind fun v1 =>
    if l2 < v1 then
      (zgR r h x 6 0).bind fun v2 =>
      (zaI r h v2 ((1 : Int32) + l2)).bind fun v3 =>
      if v3 = l1 then
        some (some (.int l2), h)
      else
        zev r i_X6_whoAt 2 [some (.ref x), some (.int l1), some (.int (l2 + (1 : Int32)))] [] h
    else
      some (some (.int (-9 : Int32)), h)) := zblk r [2] 23 _ _ _ _ _
set_option maxRecDepth 100000 in
theorem E_X6_hook_0 (r : zE) (h : zH) (x : Nat) (i1 : Int32) (i2 : Int32) : zev r i_X6_hook 0 [some (.ref x), some (.int i1), some (.int i2)] [] h =
    (if zob r h x 6 = true then
    (zcI (zev r i_X6_isHook 0 [some (.ref x), some (.int i1)] [] h) fun v1 h1 =>
    if v1 = 0 then
      some (some (.int (-1 : Int32)), h1)
    else
      zcI (zev r i_X6_in 0 [some (.long i2.toInt64), none, some (.long (0 : Int64)), none, some (.long (1 : Int64)), none] [] h1) fun v2 h2 =>
      if v2 = 0 then
        some (some (.int (-1 : Int32)), h2)
      else
        if i2 = 0 then
          (zgR r h2 x 6 2).bind fun v3 =>
          (zaI r h2 v3 i1).bind fun v4 =>
          if zob r h2 x 6 = true then
          (zcI (zev r i_X6_tell 0 [some (.ref x), some (.int v4)] [] h2) fun v5 h3 =>
          some (some (.int v5), h3))
          else none
        else
          if zob r h2 x 6 = true then
          (zcI (zev r i_X6_whoAt 0 [some (.ref x), some (.int i1), none] [] h2) fun v6 h4 =>
          if zob r h4 x 6 = true then
          (zcI (zev r i_X6_tell 0 [some (.ref x), some (.int v6)] [] h4) fun v7 h5 =>
          some (some (.int v7), h5))
          else none)
          else none)
    else none) := zblk r [] 28 _ _ _ _ _
set_option maxRecDepth 100000 in
theorem E_X6_bits_0 (r : zE) (h : zH) (i1 : Int32) : zev r i_X6_bits 0 [some (.int i1), none, none] [] h =
    (zev r i_X6_bits 4 [some (.int i1), some (.int (0 : Int32)), some (.int (0 : Int32))] [] h) := zblk r [4] 22 _ _ _ _ _
set_option maxRecDepth 100000 in
theorem E_X6_bits_4 (r : zE) (h : zH) (l0 : Int32) (l1 : Int32) (l2 : Int32) : zev r i_X6_bits 4 [some (.int l0), some (.int l1), some (.int l2)] [] h =
    (if l2 < (6 : Int32) then
      zev r i_X6_bits 4 [some (.int l0), some (.int (l1 + ((l0 >>> (l2 &&& 31)) &&& (1 : Int32)))), some (.int (l2 + (1 : Int32)))] [] h
    else
      some (some (.int l1), h)) := zblk r [4] 22 _ _ _ _ _
set_option maxRecDepth 100000 in
theorem E_X6_isOf_0 (r : zE) (h : zH) (x : Nat) (i1 : Int32) (i2 : Int32) : zev r i_X6_isOf 0 [some (.ref x), some (.int i1), some (.int i2)] [] h =
    ((zgR r h x 6 4).bind fun v1 =>
    (zaI r h v1 i1).bind fun v2 =>
    if v2 = i2 then
      some (some (.int (1 : Int32)), h)
    else
      if i2 = (1 : Int32) then
        (zgR r h x 6 4).bind fun v3 =>
        (zaI r h v3 i1).bind fun v4 =>
        if v4 = (4 : Int32) then
          some (some (.int (1 : Int32)), h)
        else
          some (some (.int (0 : Int32)), h)
      else
        some (some (.int (0 : Int32)), h)) := zblk r [] 22 _ _ _ _ _
set_option maxRecDepth 100000 in
theorem E_X6_besideOf_0 (r : zE) (h : zH) (x : Nat) (i1 : Int32) (i2 : Int32) (i3 : Int32) : zev r i_X6_besideOf 0 [some (.ref x), some (.int i1), some (.int i2), some (.int i3), none, none] [] h =
    (zev r i_X6_besideOf 6 [some (.ref x), some (.int i1), some (.int i2), some (.int i3), some (.int (0 : Int32)), some (.int (0 : Int32))] [] h) := zblk r [6] 38 _ _ _ _ _
set_option maxRecDepth 100000 in
theorem E_X6_besideOf_6 (r : zE) (h : zH) (x : Nat) (l1 : Int32) (l2 : Int32) (l3 : Int32) (l4 : Int32) (l5 : Int32) : zev r i_X6_besideOf 6 [some (.ref x), some (.int l1), some (.int l2), some (.int l3), some (.int l4), some (.int l5)] [] h =
    ((zgI r h x 6 3).bind fun v1 =>
    if l5 < v1 then
      if zob r h x 6 = true then
      (zcI (zev r i_X6_isBeside 0 [some (.ref x), some (.int l5), some (.int l1), some (.int (0 : Int32)), none] [] h) fun v2 h1 =>
      if v2 = 0 then
        zev r i_X6_besideOf 6 [some (.ref x), some (.int l1), some (.int l2), some (.int l3), some (.int (l4 + (0 : Int32))), some (.int (l5 + (1 : Int32)))] [] h1
      else
        (zgR r h1 x 6 4).bind fun v3 =>
        (zaI r h1 v3 l5).bind fun v4 =>
        if v4 = l2 then
          if (1 : Int32) = l3 then
            zev r i_X6_besideOf 6 [some (.ref x), some (.int l1), some (.int l2), some (.int l3), some (.int (l4 + (1 : Int32))), some (.int (l5 + (1 : Int32)))] [] h1
          else
            zev r i_X6_besideOf 6 [some (.ref x), some (.int l1), some (.int l2), some (.int l3), some (.int (l4 + (0 : Int32))), some (.int (l5 + (1 : Int32)))] [] h1
        else
          if (0 : Int32) = l3 then
            zev r i_X6_besideOf 6 [some (.ref x), some (.int l1), some (.int l2), some (.int l3), some (.int (l4 + (1 : Int32))), some (.int (l5 + (1 : Int32)))] [] h1
          else
            zev r i_X6_besideOf 6 [some (.ref x), some (.int l1), some (.int l2), some (.int l3), some (.int (l4 + (0 : Int32))), some (.int (l5 + (1 : Int32)))] [] h1)
      else none
    else
      some (some (.int l4), h)) := zblk r [6] 38 _ _ _ _ _
set_option maxRecDepth 100000 in
theorem E_X6_tallMany_0 (r : zE) (h : zH) (x : Nat) : zev r i_X6_tallMany 0 [some (.ref x), none, none] [] h =
    (zev r i_X6_tallMany 4 [some (.ref x), some (.int (0 : Int32)), some (.int (0 : Int32))] [] h) := zblk r [4] 26 _ _ _ _ _
set_option maxRecDepth 100000 in
theorem E_X6_tallMany_4 (r : zE) (h : zH) (x : Nat) (l1 : Int32) (l2 : Int32) : zev r i_X6_tallMany 4 [some (.ref x), some (.int l1), some (.int l2)] [] h =
    ((zgI r h x 6 3).bind fun v1 =>
    if l2 < v1 then
      if zob r h x 6 = true then
      (zcI (zev r i_X6_isOf 0 [some (.ref x), some (.int l2), some (.int (1 : Int32))] [] h) fun v2 h1 =>
      if v2 = 0 then
        zev r i_X6_tallMany 4 [some (.ref x), some (.int (l1 + (0 : Int32))), some (.int (l2 + (1 : Int32)))] [] h1
      else
        zev r i_X6_tallMany 4 [some (.ref x), some (.int (l1 + (1 : Int32))), some (.int (l2 + (1 : Int32)))] [] h1)
      else none
    else
      some (some (.int l1), h)) := zblk r [4] 26 _ _ _ _ _
set_option maxRecDepth 100000 in
theorem E_X6_mark_0 (r : zE) (h : zH) (x : Nat) (i1 : Int32) (i2 : Int32) : zev r i_X6_mark 0 [some (.ref x), some (.int i1), some (.int i2)] [] h =
    (if zob r h x 6 = true then
    (zcI (zev r i_X6_isMan 0 [some (.ref x), some (.int i1)] [] h) fun v1 h1 =>
    if v1 = 0 then
      some (some (.int (-1 : Int32)), h1)
    else
      zcI (zev r i_X6_in 0 [some (.long i2.toInt64), none, some (.long (1 : Int64)), none, some (.long (5 : Int64)), none] [] h1) fun v2 h2 =>
      if v2 = 0 then
        some (some (.int (-1 : Int32)), h2)
      else
        if zob r h2 x 6 = true then
        (zcI (zev r i_X6_isOf 0 [some (.ref x), some (.int i1), some (.int i2)] [] h2) fun v3 h3 =>
        if v3 = 0 then
          if zob r h3 x 6 = true then
          (zcI (zev r i_X6_find 0 [some (.ref x), some (.int (3 : Int32))] [] h3) fun v4 h4 =>
          some (some (.int v4), h4))
          else none
        else
          if zob r h3 x 6 = true then
          (zcV (zev r i_X6_layNow 0 [some (.ref x), none] [] h3) fun h5 =>
          if i2 = (1 : Int32) then
            if zob r h5 x 6 = true then
            (zcI (zev r i_X6_beside 0 [some (.ref x), some (.int i1), some (.int (0 : Int32)), none, none] [] h5) fun v5 h6 =>
            zcI (zev r i_X6_bits 0 [some (.int v5), none, none] [] h6) fun v6 h7 =>
            some (some (.int v6), h7))
            else none
          else if i2 = (2 : Int32) then
            if zob r h5 x 6 = true then
            (zcI (zev r i_X6_besideOf 0 [some (.ref x), some (.int i1), some (.int (3 : Int32)), some (.int (0 : Int32)), none, none] [] h5) fun v7 h8 =>
            some (some (.int v7), h8))
            else none
          else if i2 = (3 : Int32) then
            if zob r h5 x 6 = true then
            (zcI (zev r i_X6_besideOf 0 [some (.ref x), some (.int i1), some (.int (2 : Int32)), some (.int (1 : Int32)), none, none] [] h5) fun v8 h9 =>
            some (some (.int v8), h9))
            else none
          else if i2 = (4 : Int32) then
            if zob r h5 x 6 = true then
            (zcI (zev r i_X6_tallMany 0 [some (.ref x), none, none] [] h5) fun v9 h10 =>
            some (some (.int (v9 - (1 : Int32))), h10))
            else none
          else if zob r h5 x 6 = true then
            (zcI (zev r i_X6_wokenBut 0 [some (.ref x), some (.int i1), some (.int (0 : Int32)), some (.int (-9 : Int32)), none, none] [] h5) fun v10 h11 =>
            if (2 : Int32) = 0 then none else
            some (some (.int (v10 / (2 : Int32))), h11))
            else none)
          else none)
        else none)
    else none) := zblk r [] 59 _ _ _ _ _
set_option maxRecDepth 100000 in
theorem E_X6_keepPast_0 (r : zE) (h : zH) (x : Nat) : zev r i_X6_keepPast 0 [some (.ref x), none] [] h =
    (zev r i_X6_keepPast 2 [some (.ref x), some (.int (0 : Int32))] [] h) := zblk r [2] 38 _ _ _ _ _
set_option maxRecDepth 100000 in
theorem E_X6_keepPast_2 (r : zE) (h : zH) (x : Nat) (l1 : Int32) : zev r i_X6_keepPast 2 [some (.ref x), some (.int l1)] [] h =
    (if l1 < (18 : Int32) then
      (zgR r h x 6 0).bind fun v1 =>
      (zgR r h x 6 0).bind fun v2 =>
      (zaI r h v2 (0 : Int32)).bind fun v3 =>
      (zgR r h x 6 0).bind fun v4 =>
      (zaI r h v4 ((1 : Int32) + l1)).bind fun v5 =>
      (zsI r h v1 (((19 : Int32) + ((18 : Int32) * v3)) + l1) v5).bind fun h1 =>
      zev r i_X6_keepPast 2 [some (.ref x), some (.int (l1 + (1 : Int32)))] [] h1
    else
      (zgR r h x 6 0).bind fun v6 =>
      (zaI r h v6 (0 : Int32)).bind fun v7 =>
      (zsI r h v6 (0 : Int32) (v7 + (1 : Int32))).bind fun h2 =>
      some (none, h2)) := zblk r [2] 38 _ _ _ _ _
set_option maxRecDepth 100000 in
theorem E_X6_hang_0 (r : zE) (h : zH) (x : Nat) (i1 : Int32) (i2 : Int32) : zev r i_X6_hang 0 [some (.ref x), some (.int i1), some (.int i2)] [] h =
    (if zob r h x 6 = true then
    (zcI (zev r i_X6_isMan 0 [some (.ref x), some (.int i1)] [] h) fun v1 h1 =>
    if v1 = 0 then
      some (some (.int (-1 : Int32)), h1)
    else
      if zob r h1 x 6 = true then
      (zcI (zev r i_X6_isHook 0 [some (.ref x), some (.int i2)] [] h1) fun v2 h2 =>
      if v2 = 0 then
        some (some (.int (-1 : Int32)), h2)
      else
        if zob r h2 x 6 = true then
        (zcI (zev r i_X6_whoAt 0 [some (.ref x), some (.int i2), none] [] h2) fun v3 h3 =>
        if v3 = (-9 : Int32) then
          (zgR r h3 x 6 0).bind fun v4 =>
          (zaI r h3 v4 (0 : Int32)).bind fun v5 =>
          if v5 = (60 : Int32) then
            some (some (.int (-2 : Int32)), h3)
          else
            if zob r h3 x 6 = true then
            (zcV (zev r i_X6_keepPast 0 [some (.ref x), none] [] h3) fun h4 =>
            (zgR r h4 x 6 0).bind fun v6 =>
            (zsI r h4 v6 ((1 : Int32) + i1) i2).bind fun h5 =>
            some (some (.int i2), h5))
            else none
        else
          some (some (.int (-4 : Int32)), h3))
        else none)
      else none)
    else none) := zblk r [] 39 _ _ _ _ _
set_option maxRecDepth 100000 in
theorem E_X6_down_0 (r : zE) (h : zH) (x : Nat) (i1 : Int32) : zev r i_X6_down 0 [some (.ref x), some (.int i1), none] [] h =
    (if zob r h x 6 = true then
    (zcI (zev r i_X6_isMan 0 [some (.ref x), some (.int i1)] [] h) fun v1 h1 =>
    if v1 = 0 then
      some (some (.int (-1 : Int32)), h1)
    else
      (zgR r h1 x 6 0).bind fun v2 =>
      (zaI r h1 v2 ((1 : Int32) + i1)).bind fun v3 =>
      if v3 = (-9 : Int32) then
        some (some (.int (-4 : Int32)), h1)
      else
        (zgR r h1 x 6 0).bind fun v4 =>
        (zaI r h1 v4 (0 : Int32)).bind fun v5 =>
        if v5 = (60 : Int32) then
          some (some (.int (-2 : Int32)), h1)
        else
          if zob r h1 x 6 = true then
          (zcV (zev r i_X6_keepPast 0 [some (.ref x), none] [] h1) fun h2 =>
          (zgR r h2 x 6 0).bind fun v6 =>
          (zaI r h2 v6 ((1 : Int32) + i1)).bind fun v7 =>
          (zgR r h2 x 6 0).bind fun v8 =>
          (zsI r h2 v8 ((1 : Int32) + i1) (-9 : Int32)).bind fun h3 =>
          some (some (.int v7), h3))
          else none)
    else none) := zblk r [] 45 _ _ _ _ _
set_option maxRecDepth 100000 in
theorem E_X6_areTwo_0 (r : zE) (h : zH) (x : Nat) (i1 : Int32) (i2 : Int32) : zev r i_X6_areTwo 0 [some (.ref x), some (.int i1), some (.int i2)] [] h =
    (if zob r h x 6 = true then
    (zcI (zev r i_X6_isMan 0 [some (.ref x), some (.int i1)] [] h) fun v1 h1 =>
    if v1 = 0 then
      some (some (.int (0 : Int32)), h1)
    else
      if zob r h1 x 6 = true then
      (zcI (zev r i_X6_isMan 0 [some (.ref x), some (.int i2)] [] h1) fun v2 h2 =>
      if v2 = 0 then
        some (some (.int (0 : Int32)), h2)
      else
        if i1 = i2 then
          some (some (.int (0 : Int32)), h2)
        else
          some (some (.int (1 : Int32)), h2))
      else none)
    else none) := zblk r [] 18 _ _ _ _ _
set_option maxRecDepth 100000 in
theorem E_X6_change_0 (r : zE) (h : zH) (x : Nat) (i1 : Int32) (i2 : Int32) : zev r i_X6_change 0 [some (.ref x), some (.int i1), some (.int i2), none] [] h =
    (if zob r h x 6 = true then
    (zcI (zev r i_X6_areTwo 0 [some (.ref x), some (.int i1), some (.int i2)] [] h) fun v1 h1 =>
    if v1 = 0 then
      some (some (.int (-1 : Int32)), h1)
    else
      (zgR r h1 x 6 0).bind fun v2 =>
      (zaI r h1 v2 ((1 : Int32) + i1)).bind fun v3 =>
      if v3 = (-9 : Int32) then
        (zgR r h1 x 6 0).bind fun v4 =>
        (zaI r h1 v4 ((1 : Int32) + i2)).bind fun v5 =>
        if v5 = (-9 : Int32) then
          some (some (.int (-4 : Int32)), h1)
        else
          zev r i_X6_change 42 [some (.ref x), some (.int i1), some (.int i2), some (.int v3)] [] h1
      else
        zev r i_X6_change 42 [some (.ref x), some (.int i1), some (.int i2), some (.int v3)] [] h1)
    else none) := zblk r [42] 61 _ _ _ _ _
set_option maxRecDepth 100000 in
theorem E_X6_change_42 (r : zE) (h : zH) (x : Nat) (l1 : Int32) (l2 : Int32) (l3 : Int32) : zev r i_X6_change 42 [some (.ref x), some (.int l1), some (.int l2), some (.int l3)] [] h =
    ((zgR r h x 6 0).bind fun v1 =>
    (zaI r h v1 (0 : Int32)).bind fun v2 =>
    if v2 = (60 : Int32) then
      some (some (.int (-2 : Int32)), h)
    else
      if zob r h x 6 = true then
      (zcV (zev r i_X6_keepPast 0 [some (.ref x), none] [] h) fun h1 =>
      (zgR r h1 x 6 0).bind fun v3 =>
      (zgR r h1 x 6 0).bind fun v4 =>
      (zaI r h1 v4 ((1 : Int32) + l2)).bind fun v5 =>
      (zsI r h1 v3 ((1 : Int32) + l1) v5).bind fun h2 =>
      (zgR r h2 x 6 0).bind fun v6 =>
      (zsI r h2 v6 ((1 : Int32) + l2) l3).bind fun h3 =>
      some (some (.int (1 : Int32)), h3))
      else none) := zblk r [42] 61 _ _ _ _ _
set_option maxRecDepth 100000 in
theorem E_X6_line_0 (r : zE) (h : zH) (x : Nat) (i1 : Int32) (i2 : Int32) : zev r i_X6_line 0 [some (.ref x), some (.int i1), some (.int i2), none] [] h =
    (if zob r h x 6 = true then
    (zcI (zev r i_X6_isMan 0 [some (.ref x), some (.int i1)] [] h) fun v1 h1 =>
    if v1 = 0 then
      some (some (.int (-1 : Int32)), h1)
    else
      zcI (zev r i_X6_in 0 [some (.long i2.toInt64), none, some (.long (1 : Int64)), none, some (.long (9 : Int64)), none] [] h1) fun v2 h2 =>
      if v2 = 0 then
        some (some (.int (-1 : Int32)), h2)
      else
        (zgR r h2 x 6 0).bind fun v3 =>
        (zaI r h2 v3 ((7 : Int32) + i1)).bind fun v4 =>
        if v4 = i2 then
          some (some (.int (-4 : Int32)), h2)
        else
          (zgR r h2 x 6 0).bind fun v5 =>
          (zaI r h2 v5 (0 : Int32)).bind fun v6 =>
          if v6 = (60 : Int32) then
            some (some (.int (-2 : Int32)), h2)
          else
            if zob r h2 x 6 = true then
            (zcV (zev r i_X6_keepPast 0 [some (.ref x), none] [] h2) fun h3 =>
            (zgR r h3 x 6 0).bind fun v7 =>
            (zsI r h3 v7 ((7 : Int32) + i1) i2).bind fun h4 =>
            some (some (.int v4), h4))
            else none)
    else none) := zblk r [] 46 _ _ _ _ _
set_option maxRecDepth 100000 in
theorem E_X6_pass_0 (r : zE) (h : zH) (x : Nat) (i1 : Int32) : zev r i_X6_pass 0 [some (.ref x), some (.int i1), none, none, none] [] h =
    (if zob r h x 6 = true then
    (zcV (zev r i_X6_keepPast 0 [some (.ref x), none] [] h) fun h1 =>
    if zob r h1 x 6 = true then
    (zcV (zev r i_X6_layNow 0 [some (.ref x), none] [] h1) fun h2 =>
    zev r i_X6_pass 12 [some (.ref x), some (.int i1), some (.int (0 : Int32)), some (.int (0 : Int32)), none] [] h2)
    else none)
    else none) := zblk r [12, 54] 57 _ _ _ _ _
set_option maxRecDepth 100000 in
theorem E_X6_pass_12 (r : zE) (h : zH) (x : Nat) (l1 : Int32) (l2 : Int32) (l3 : Int32) : zev r i_X6_pass 12 [some (.ref x), some (.int l1), some (.int l2), some (.int l3), none] [] h =
    ((zgI r h x 6 3).bind fun v1 =>
    if l3 < v1 then
      (zgR r h x 6 0).bind fun v2 =>
      (zaI r h v2 ((13 : Int32) + l3)).bind fun v3 =>
      if zob r h x 6 = true then
      (zcI (zev r i_X6_wokenBut 0 [some (.ref x), some (.int l3), some (.int l1), some (.int (-9 : Int32)), none, none] [] h) fun v4 h1 =>
      if (99 : Int32) < (v3 + v4) then
        zev r i_X6_pass 54 [some (.ref x), some (.int l1), some (.int l2), some (.int l3), some (.int (v3 + v4))] [.int (99 : Int32)] h1
      else
        zev r i_X6_pass 54 [some (.ref x), some (.int l1), some (.int l2), some (.int l3), some (.int (v3 + v4))] [.int (v3 + v4)] h1)
      else none
    else
      some (some (.int l2), h)) := zblk r [12, 54] 57 _ _ _ _ _
set_option maxRecDepth 100000 in
theorem E_X6_pass_54 (r : zE) (h : zH) (x : Nat) (l1 : Int32) (l2 : Int32) (l3 : Int32) (l4 : Int32) (s0 : Int32) : zev r i_X6_pass 54 [some (.ref x), some (.int l1), some (.int l2), some (.int l3), some (.int l4)] [.int s0] h =
    ((zgR r h x 6 0).bind fun v1 =>
    (zaI r h v1 ((13 : Int32) + l3)).bind fun v2 =>
    (zgR r h x 6 0).bind fun v3 =>
    (zsI r h v3 ((13 : Int32) + l3) s0).bind fun h1 =>
    zev r i_X6_pass 12 [some (.ref x), some (.int l1), some (.int (l2 + (s0 - v2))), some (.int (l3 + (1 : Int32))), none] [] h1) := zblk r [12, 54] 57 _ _ _ _ _
set_option maxRecDepth 100000 in
theorem E_X6_night_0 (r : zE) (h : zH) (x : Nat) (i1 : Int32) : zev r i_X6_night 0 [some (.ref x), some (.int i1)] [] h =
    (zcI (zev r i_X6_isWhen 0 [some (.int i1)] [] h) fun v1 h1 =>
    if v1 = 0 then
      some (some (.int (-1 : Int32)), h1)
    else
      (zgI r h1 x 6 3).bind fun v2 =>
      if v2 = 0 then
        some (some (.int (-4 : Int32)), h1)
      else
        (zgR r h1 x 6 0).bind fun v3 =>
        (zaI r h1 v3 (0 : Int32)).bind fun v4 =>
        if v4 = (60 : Int32) then
          some (some (.int (-2 : Int32)), h1)
        else
          if zob r h1 x 6 = true then
          (zcI (zev r i_X6_pass 0 [some (.ref x), some (.int i1), none, none, none] [] h1) fun v5 h2 =>
          some (some (.int v5), h2))
          else none) := zblk r [] 25 _ _ _ _ _
set_option maxRecDepth 100000 in
theorem E_X6_undo_0 (r : zE) (h : zH) (x : Nat) (i1 : Int32) : zev r i_X6_undo 0 [some (.ref x), some (.int i1), none, none] [] h =
    ((zgR r h x 6 0).bind fun v1 =>
    (zaI r h v1 (0 : Int32)).bind fun v2 =>
    zcI (zev r i_X6_in 0 [some (.long i1.toInt64), none, some (.long (0 : Int64)), none, some (.long v2.toInt64), none] [] h) fun v3 h1 =>
    if v3 = 0 then
      some (some (.int (-1 : Int32)), h1)
    else
      (zgR r h1 x 6 0).bind fun v4 =>
      (zaI r h1 v4 (0 : Int32)).bind fun v5 =>
      zev r i_X6_undo 29 [some (.ref x), some (.int i1), some (.int (v5 - i1)), some (.int (0 : Int32))] [] h1) := zblk r [29] 54 _ _ _ _ _
set_option maxRecDepth 100000 in
theorem E_X6_undo_29 (r : zE) (h : zH) (x : Nat) (l1 : Int32) (l2 : Int32) (l3 : Int32) : zev r i_X6_undo 29 [some (.ref x), some (.int l1), some (.int l2), some (.int l3)] [] h =
    (if l3 < (18 : Int32) then
      if 0 < l2 then
        (zgR r h x 6 0).bind fun v1 =>
        (zgR r h x 6 0).bind fun v2 =>
        (zaI r h v2 (((19 : Int32) + ((18 : Int32) * l1)) + l3)).bind fun v3 =>
        (zsI r h v1 ((1 : Int32) + l3) v3).bind fun h1 =>
        zev r i_X6_undo 29 [some (.ref x), some (.int l1), some (.int l2), some (.int (l3 + (1 : Int32)))] [] h1
      else
        (zgR r h x 6 0).bind fun v4 =>
        (zsI r h v4 (0 : Int32) l1).bind fun h2 =>
        some (some (.int l2), h2)
    else
      (zgR r h x 6 0).bind fun v5 =>
      (zsI r h v5 (0 : Int32) l1).bind fun h3 =>
      some (some (.int l2), h3)) := zblk r [29] 54 _ _ _ _ _
set_option maxRecDepth 100000 in
theorem E_X6_copyDeck_0 (r : zE) (h : zH) (x : Nat) (i1 : Int32) (i2 : Int32) : zev r i_X6_copyDeck 0 [some (.ref x), some (.int i1), some (.int i2), none] [] h =
    (zev r i_X6_copyDeck 2 [some (.ref x), some (.int i1), some (.int i2), some (.int (0 : Int32))] [] h) := zblk r [2] 23 _ _ _ _ _
set_option maxRecDepth 100000 in
theorem E_X6_copyDeck_2 (r : zE) (h : zH) (x : Nat) (l1 : Int32) (l2 : Int32) (l3 : Int32) : zev r i_X6_copyDeck 2 [some (.ref x), some (.int l1), some (.int l2), some (.int l3)] [] h =
    (if l3 < (1099 : Int32) then
      (zgR r h x 6 0).bind fun v1 =>
      (zgR r h x 6 0).bind fun v2 =>
      (zaI r h v2 (l1 + l3)).bind fun v3 =>
      (zsI r h v1 (l2 + l3) v3).bind fun h1 =>
      zev r i_X6_copyDeck 2 [some (.ref x), some (.int l1), some (.int l2), some (.int (l3 + (1 : Int32)))] [] h1
    else
      some (none, h)) := zblk r [2] 23 _ _ _ _ _
set_option maxRecDepth 100000 in
theorem E_X6_keep_0 (r : zE) (h : zH) (x : Nat) (i1 : Int32) : zev r i_X6_keep 0 [some (.ref x), some (.int i1)] [] h =
    (zcI (zev r i_X6_in 0 [some (.long i1.toInt64), none, some (.long (0 : Int64)), none, some (.long (2 : Int64)), none] [] h) fun v1 h1 =>
    if v1 = 0 then
      some (some (.int (-1 : Int32)), h1)
    else
      (zgI r h1 x 6 3).bind fun v2 =>
      if v2 = 0 then
        some (some (.int (-4 : Int32)), h1)
      else
        if zob r h1 x 6 = true then
        (zcV (zev r i_X6_copyDeck 0 [some (.ref x), some (.int (0 : Int32)), some (.int ((1099 : Int32) * ((1 : Int32) + i1))), none] [] h1) fun h2 =>
        (zgR r h2 x 6 0).bind fun v3 =>
        (zaI r h2 v3 (0 : Int32)).bind fun v4 =>
        some (some (.int v4), h2))
        else none) := zblk r [] 29 _ _ _ _ _
set_option maxRecDepth 100000 in
theorem E_X6_on_0 (r : zE) (h : zH) (x : Nat) (i1 : Int32) : zev r i_X6_on 0 [some (.ref x), some (.int i1)] [] h =
    (zcI (zev r i_X6_in 0 [some (.long i1.toInt64), none, some (.long (0 : Int64)), none, some (.long (2 : Int64)), none] [] h) fun v1 h1 =>
    if v1 = 0 then
      some (some (.int (-1 : Int32)), h1)
    else
      (zgR r h1 x 6 0).bind fun v2 =>
      (zaI r h1 v2 (((1099 : Int32) * ((1 : Int32) + i1)) + (0 : Int32))).bind fun v3 =>
      if v3 < 0 then
        if zob r h1 x 6 = true then
        (zcI (zev r i_X6_find 0 [some (.ref x), some (.int (1 : Int32))] [] h1) fun v4 h2 =>
        some (some (.int v4), h2))
        else none
      else
        if zob r h1 x 6 = true then
        (zcV (zev r i_X6_copyDeck 0 [some (.ref x), some (.int ((1099 : Int32) * ((1 : Int32) + i1))), some (.int (0 : Int32)), none] [] h1) fun h3 =>
        (zgR r h3 x 6 0).bind fun v5 =>
        (zaI r h3 v5 (0 : Int32)).bind fun v6 =>
        some (some (.int v6), h3))
        else none) := zblk r [] 39 _ _ _ _ _
set_option maxRecDepth 100000 in
theorem E_X6_neighbours_0 (r : zE) (h : zH) (x : Nat) (i1 : Int32) (i2 : Int32) : zev r i_X6_neighbours 0 [some (.ref x), some (.int i1), some (.int i2)] [] h =
    (if zob r h x 6 = true then
    (zcI (zev r i_X6_isMan 0 [some (.ref x), some (.int i1)] [] h) fun v1 h1 =>
    if v1 = 0 then
      some (some (.int (-1 : Int32)), h1)
    else
      zcI (zev r i_X6_isWhen 0 [some (.int i2)] [] h1) fun v2 h2 =>
      if v2 = 0 then
        some (some (.int (-1 : Int32)), h2)
      else
        if zob r h2 x 6 = true then
        (zcV (zev r i_X6_layNow 0 [some (.ref x), none] [] h2) fun h3 =>
        if zob r h3 x 6 = true then
        (zcI (zev r i_X6_beside 0 [some (.ref x), some (.int i1), some (.int i2), none, none] [] h3) fun v3 h4 =>
        some (some (.int v3), h4))
        else none)
        else none)
    else none) := zblk r [] 19 _ _ _ _ _
set_option maxRecDepth 100000 in
theorem E_X6_woken_0 (r : zE) (h : zH) (x : Nat) (i1 : Int32) (i2 : Int32) : zev r i_X6_woken 0 [some (.ref x), some (.int i1), some (.int i2)] [] h =
    (if zob r h x 6 = true then
    (zcI (zev r i_X6_isMan 0 [some (.ref x), some (.int i1)] [] h) fun v1 h1 =>
    if v1 = 0 then
      some (some (.int (-1 : Int32)), h1)
    else
      zcI (zev r i_X6_isWhen 0 [some (.int i2)] [] h1) fun v2 h2 =>
      if v2 = 0 then
        some (some (.int (-1 : Int32)), h2)
      else
        if zob r h2 x 6 = true then
        (zcV (zev r i_X6_layNow 0 [some (.ref x), none] [] h2) fun h3 =>
        if zob r h3 x 6 = true then
        (zcI (zev r i_X6_wokenBut 0 [some (.ref x), some (.int i1), some (.int i2), some (.int (-9 : Int32)), none, none] [] h3) fun v3 h4 =>
        some (some (.int v3), h4))
        else none)
        else none)
    else none) := zblk r [] 20 _ _ _ _ _
set_option maxRecDepth 100000 in
theorem E_X6_inMany_0 (r : zE) (h : zH) (x : Nat) (i1 : Int32) : zev r i_X6_inMany 0 [some (.ref x), some (.int i1), none, none] [] h =
    (zev r i_X6_inMany 4 [some (.ref x), some (.int i1), some (.int (0 : Int32)), some (.int (0 : Int32))] [] h) := zblk r [4] 26 _ _ _ _ _
set_option maxRecDepth 100000 in
theorem E_X6_inMany_4 (r : zE) (h : zH) (x : Nat) (l1 : Int32) (l2 : Int32) (l3 : Int32) : zev r i_X6_inMany 4 [some (.ref x), some (.int l1), some (.int l2), some (.int l3)] [] h =
    ((zgI r h x 6 3).bind fun v1 =>
    if l3 < v1 then
      if zob r h x 6 = true then
      (zcI (zev r i_X6_isIn 0 [some (.ref x), some (.int l3), some (.int l1)] [] h) fun v2 h1 =>
      if v2 = 0 then
        zev r i_X6_inMany 4 [some (.ref x), some (.int l1), some (.int (l2 + (0 : Int32))), some (.int (l3 + (1 : Int32)))] [] h1
      else
        zev r i_X6_inMany 4 [some (.ref x), some (.int l1), some (.int (l2 + (1 : Int32))), some (.int (l3 + (1 : Int32)))] [] h1)
      else none
    else
      some (some (.int l2), h)) := zblk r [4] 26 _ _ _ _ _
set_option maxRecDepth 100000 in
theorem E_X6_all_0 (r : zE) (h : zH) (x : Nat) (i1 : Int32) : zev r i_X6_all 0 [some (.ref x), some (.int i1)] [] h =
    (zcI (zev r i_X6_isWhen 0 [some (.int i1)] [] h) fun v1 h1 =>
    if v1 = 0 then
      some (some (.int (-1 : Int32)), h1)
    else
      if zob r h1 x 6 = true then
      (zcV (zev r i_X6_layNow 0 [some (.ref x), none] [] h1) fun h2 =>
      if zob r h2 x 6 = true then
      (zcI (zev r i_X6_inMany 0 [some (.ref x), some (.int i1), none, none] [] h2) fun v2 h3 =>
      (zpF r h3 x 6 11 (.int v2)).bind fun h4 =>
      if zob r h4 x 6 = true then
      (zcI (zev r i_X6_allWoken 0 [some (.ref x), some (.int i1), none, none] [] h4) fun v3 h5 =>
      some (some (.int v3), h5))
      else none)
      else none)
      else none) := zblk r [] 19 _ _ _ _ _
set_option maxRecDepth 100000 in
theorem E_X6_worst_0 (r : zE) (h : zH) (x : Nat) (i1 : Int32) : zev r i_X6_worst 0 [some (.ref x), some (.int i1), none, none, none, none] [] h =
    (zcI (zev r i_X6_isWhen 0 [some (.int i1)] [] h) fun v1 h1 =>
    if v1 = 0 then
      some (some (.int (-1 : Int32)), h1)
    else
      if zob r h1 x 6 = true then
      (zcV (zev r i_X6_layNow 0 [some (.ref x), none] [] h1) fun h2 =>
      zev r i_X6_worst 21 [some (.ref x), some (.int i1), some (.int (-9 : Int32)), some (.int (-1 : Int32)), some (.int (0 : Int32)), none] [] h2)
      else none) := zblk r [21, 53] 60 _ _ _ _ _
set_option maxRecDepth 100000 in
theorem E_X6_worst_21 (r : zE) (h : zH) (x : Nat) (l1 : Int32) (l2 : Int32) (l3 : Int32) (l4 : Int32) : zev r i_X6_worst 21 [some (.ref x), some (.int l1), some (.int l2), some (.int l3), some (.int l4), none] [] h =
    ((zgI r h x 6 3).bind fun v1 =>
    if l4 < v1 then
      if zob r h x 6 = true then
      (zcI (zev r i_X6_isIn 0 [some (.ref x), some (.int l4), some (.int l1)] [] h) fun v2 h1 =>
      if v2 = 0 then
        zev r i_X6_worst 53 [some (.ref x), some (.int l1), some (.int l2), some (.int l3), some (.int l4), none] [.int (-1 : Int32)] h1
      else
        if zob r h1 x 6 = true then
        (zcI (zev r i_X6_wokenBut 0 [some (.ref x), some (.int l4), some (.int l1), some (.int (-9 : Int32)), none, none] [] h1) fun v3 h2 =>
        zev r i_X6_worst 53 [some (.ref x), some (.int l1), some (.int l2), some (.int l3), some (.int l4), none] [.int v3] h2)
        else none)
      else none
    else
      if l2 = (-9 : Int32) then
        (zgI r h x 6 11).bind fun v4 =>
        (zpF r h x 6 11 (.int v4)).bind fun h3 =>
        some (some (.int l2), h3)
      else
        (zpF r h x 6 11 (.int l3)).bind fun h4 =>
        some (some (.int l2), h4)) := zblk r [21, 53] 60 _ _ _ _ _
set_option maxRecDepth 100000 in
theorem E_X6_worst_53 (r : zE) (h : zH) (x : Nat) (l1 : Int32) (l2 : Int32) (l3 : Int32) (l4 : Int32) (s0 : Int32) : zev r i_X6_worst 53 [some (.ref x), some (.int l1), some (.int l2), some (.int l3), some (.int l4), none] [.int s0] h =
    (if l3 < s0 then
      if l3 < s0 then
        zev r i_X6_worst 21 [some (.ref x), some (.int l1), some (.int l4), some (.int s0), some (.int (l4 + (1 : Int32))), none] [] h
      else
        zev r i_X6_worst 21 [some (.ref x), some (.int l1), some (.int l4), some (.int l3), some (.int (l4 + (1 : Int32))), none] [] h
    else
      if l3 < s0 then
        zev r i_X6_worst 21 [some (.ref x), some (.int l1), some (.int l2), some (.int s0), some (.int (l4 + (1 : Int32))), none] [] h
      else
        zev r i_X6_worst 21 [some (.ref x), some (.int l1), some (.int l2), some (.int l3), some (.int (l4 + (1 : Int32))), none] [] h) := zblk r [21, 53] 60 _ _ _ _ _
set_option maxRecDepth 100000 in
theorem E_X6_by_0 (r : zE) (h : zH) (x : Nat) (i1 : Int32) (i2 : Int32) : zev r i_X6_by 0 [some (.ref x), some (.int i1), some (.int i2), none, none, none, none, none] [] h =
    (if zob r h x 6 = true then
    (zcI (zev r i_X6_isMan 0 [some (.ref x), some (.int i1)] [] h) fun v1 h1 =>
    if v1 = 0 then
      some (some (.int (-1 : Int32)), h1)
    else
      zcI (zev r i_X6_isWhen 0 [some (.int i2)] [] h1) fun v2 h2 =>
      if v2 = 0 then
        some (some (.int (-1 : Int32)), h2)
      else
        if zob r h2 x 6 = true then
        (zcV (zev r i_X6_layNow 0 [some (.ref x), none] [] h2) fun h3 =>
        if zob r h3 x 6 = true then
        (zcI (zev r i_X6_wokenBut 0 [some (.ref x), some (.int i1), some (.int i2), some (.int (-9 : Int32)), none, none] [] h3) fun v3 h4 =>
        zev r i_X6_by 40 [some (.ref x), some (.int i1), some (.int i2), some (.int (-9 : Int32)), some (.int (-1 : Int32)), some (.int v3), some (.int (0 : Int32)), none] [] h4)
        else none)
        else none)
    else none) := zblk r [40, 84] 78 _ _ _ _ _
set_option maxRecDepth 100000 in
theorem E_X6_by_40 (r : zE) (h : zH) (x : Nat) (l1 : Int32) (l2 : Int32) (l3 : Int32) (l4 : Int32) (l5 : Int32) (l6 : Int32) : zev r i_X6_by 40 [some (.ref x), some (.int l1), some (.int l2), some (.int l3), some (.int l4), some (.int l5), some (.int l6), none] [] h =
    ((zgI r h x 6 3).bind fun v1 =>
    if l6 < v1 then
      if zob r h x 6 = true then
      (zcI (zev r i_X6_isIn 0 [some (.ref x), some (.int l1), some (.int l2)] [] h) fun v2 h1 =>
      if v2 = 0 then
        zev r i_X6_by 84 [some (.ref x), some (.int l1), some (.int l2), some (.int l3), some (.int l4), some (.int l5), some (.int l6), none] [.int (-1 : Int32)] h1
      else
        if zob r h1 x 6 = true then
        (zcI (zev r i_X6_isBeside 0 [some (.ref x), some (.int l6), some (.int l1), some (.int l2), none] [] h1) fun v3 h2 =>
        if v3 = 0 then
          zev r i_X6_by 84 [some (.ref x), some (.int l1), some (.int l2), some (.int l3), some (.int l4), some (.int l5), some (.int l6), none] [.int (-1 : Int32)] h2
        else
          if zob r h2 x 6 = true then
          (zcI (zev r i_X6_wokenBut 0 [some (.ref x), some (.int l1), some (.int l2), some (.int l6), none, none] [] h2) fun v4 h3 =>
          zev r i_X6_by 84 [some (.ref x), some (.int l1), some (.int l2), some (.int l3), some (.int l4), some (.int l5), some (.int l6), none] [.int (l5 - v4)] h3)
          else none)
        else none)
      else none
    else
      if l3 = (-9 : Int32) then
        (zgI r h x 6 11).bind fun v5 =>
        (zpF r h x 6 11 (.int v5)).bind fun h4 =>
        some (some (.int l3), h4)
      else
        (zpF r h x 6 11 (.int l4)).bind fun h5 =>
        some (some (.int l3), h5)) := zblk r [40, 84] 78 _ _ _ _ _
set_option maxRecDepth 100000 in
theorem E_X6_by_84 (r : zE) (h : zH) (x : Nat) (l1 : Int32) (l2 : Int32) (l3 : Int32) (l4 : Int32) (l5 : Int32) (l6 : Int32) (s0 : Int32) : zev r i_X6_by 84 [some (.ref x), some (.int l1), some (.int l2), some (.int l3), some (.int l4), some (.int l5), some (.int l6), none] [.int s0] h =
    (if l4 < s0 then
      if l4 < s0 then
        zev r i_X6_by 40 [some (.ref x), some (.int l1), some (.int l2), some (.int l6), some (.int s0), some (.int l5), some (.int (l6 + (1 : Int32))), none] [] h
      else
        zev r i_X6_by 40 [some (.ref x), some (.int l1), some (.int l2), some (.int l6), some (.int l4), some (.int l5), some (.int (l6 + (1 : Int32))), none] [] h
    else
      if l4 < s0 then
        zev r i_X6_by 40 [some (.ref x), some (.int l1), some (.int l2), some (.int l3), some (.int s0), some (.int l5), some (.int (l6 + (1 : Int32))), none] [] h
      else
        zev r i_X6_by 40 [some (.ref x), some (.int l1), some (.int l2), some (.int l3), some (.int l4), some (.int l5), some (.int (l6 + (1 : Int32))), none] [] h) := zblk r [40, 84] 78 _ _ _ _ _
set_option maxRecDepth 100000 in
theorem E_X6_firstPlan_0 (r : zE) (h : zH) (x : Nat) : zev r i_X6_firstPlan 0 [some (.ref x), none] [] h =
    (if zob r h x 6 = true then
    (zcV (zev r i_X6_layNow 0 [some (.ref x), none] [] h) fun h1 =>
    zev r i_X6_firstPlan 6 [some (.ref x), some (.int (0 : Int32))] [] h1)
    else none) := zblk r [6] 19 _ _ _ _ _
set_option maxRecDepth 100000 in
theorem E_X6_firstPlan_6 (r : zE) (h : zH) (x : Nat) (l1 : Int32) : zev r i_X6_firstPlan 6 [some (.ref x), some (.int l1)] [] h =
    ((zgI r h x 6 3).bind fun v1 =>
    if l1 < v1 then
      (zgR r h x 6 23).bind fun v2 =>
      (zsI r h v2 l1 l1).bind fun h1 =>
      zev r i_X6_firstPlan 6 [some (.ref x), some (.int (l1 + (1 : Int32)))] [] h1
    else
      some (none, h)) := zblk r [6] 19 _ _ _ _ _
set_option maxRecDepth 100000 in
theorem E_X6_areUnlike_0 (r : zE) (h : zH) (x : Nat) : zev r i_X6_areUnlike 0 [some (.ref x), none, none, none] [] h =
    (zev r i_X6_areUnlike 4 [some (.ref x), some (.int (0 : Int32)), some (.int (0 : Int32)), none] [] h) := zblk r [4, 33] 48 _ _ _ _ _
set_option maxRecDepth 100000 in
theorem E_X6_areUnlike_4 (r : zE) (h : zH) (x : Nat) (l1 : Int32) (l2 : Int32) : zev r i_X6_areUnlike 4 [some (.ref x), some (.int l1), some (.int l2), none] [] h =
    ((zgI r h x 6 3).bind fun v1 =>
    if l2 < v1 then
      (zgR r h x 6 23).bind fun v2 =>
      (zaI r h v2 l2).bind fun v3 =>
      zev r i_X6_areUnlike 4 [some (.ref x), some (.int (l1 ||| ((1 : Int32) <<< (v3 &&& 31)))), some (.int (l2 + (1 : Int32))), none] [] h
    else
      zev r i_X6_areUnlike 33 [some (.ref x), some (.int l1), some (.int (0 : Int32)), some (.int (0 : Int32))] [] h) := zblk r [4, 33] 48 _ _ _ _ _
set_option maxRecDepth 100000 in
theorem E_X6_areUnlike_33 (r : zE) (h : zH) (x : Nat) (l1 : Int32) (l2 : Int32) (l3 : Int32) : zev r i_X6_areUnlike 33 [some (.ref x), some (.int l1), some (.int l2), some (.int l3)] [] h =
    ((zgI r h x 6 1).bind fun v1 =>
    if l3 < v1 then
      zev r i_X6_areUnlike 33 [some (.ref x), some (.int l1), some (.int (l2 + ((l1 >>> (l3 &&& 31)) &&& (1 : Int32)))), some (.int (l3 + (1 : Int32)))] [] h
    else
      (zgI r h x 6 3).bind fun v2 =>
      if l2 = v2 then
        some (some (.int (1 : Int32)), h)
      else
        some (some (.int (0 : Int32)), h)) := zblk r [4, 33] 48 _ _ _ _ _
set_option maxRecDepth 100000 in
theorem E_X6_nextPlan_0 (r : zE) (h : zH) (x : Nat) : zev r i_X6_nextPlan 0 [some (.ref x), none, none] [] h =
    (zev r i_X6_nextPlan 2 [some (.ref x), some (.int (0 : Int32)), none] [] h) := zblk r [2, 13, 45] 48 _ _ _ _ _
set_option maxRecDepth 100000 in
theorem E_X6_nextPlan_2 (r : zE) (h : zH) (x : Nat) (l1 : Int32) : zev r i_X6_nextPlan 2 [some (.ref x), some (.int l1), none] [] h =
    (if l1 = 0 then
      (zgI r h x 6 3).bind fun v1 =>
      zev r i_X6_nextPlan 13 [some (.ref x), some (.int l1), some (.int (v1 - (1 : Int32)))] [] h
    else
      some (some (.int (1 : Int32)), h)) := zblk r [2, 13, 45] 48 _ _ _ _ _
set_option maxRecDepth 100000 in
theorem E_X6_nextPlan_13 (r : zE) (h : zH) (x : Nat) (l1 : Int32) (l2 : Int32) : zev r i_X6_nextPlan 13 [some (.ref x), some (.int l1), some (.int l2)] [] h =
    (if l2 < 0 then
      zev r i_X6_nextPlan 45 [some (.ref x), some (.int l1), some (.int l2)] [] h
    else
      (zgR r h x 6 23).bind fun v1 =>
      (zaI r h v1 l2).bind fun v2 =>
      (zgI r h x 6 1).bind fun v3 =>
      if v2 = (v3 - (1 : Int32)) then
        (zgR r h x 6 23).bind fun v4 =>
        (zsI r h v4 l2 (0 : Int32)).bind fun h1 =>
        zev r i_X6_nextPlan 13 [some (.ref x), some (.int l1), some (.int (l2 + (-1 : Int32)))] [] h1
      else
        zev r i_X6_nextPlan 45 [some (.ref x), some (.int l1), some (.int l2)] [] h) := zblk r [2, 13, 45] 48 _ _ _ _ _
set_option maxRecDepth 100000 in
theorem E_X6_nextPlan_45 (r : zE) (h : zH) (x : Nat) (l1 : Int32) (l2 : Int32) : zev r i_X6_nextPlan 45 [some (.ref x), some (.int l1), some (.int l2)] [] h =
    (if l2 < 0 then
      some (some (.int (0 : Int32)), h)
    else
      (zgR r h x 6 23).bind fun v1 =>
      (zaI r h v1 l2).bind fun v2 =>
      (zsI r h v1 l2 (v2 + (1 : Int32))).bind fun h1 =>
      if zob r h1 x 6 = true then
      (zcI (zev r i_X6_areUnlike 0 [some (.ref x), none, none, none] [] h1) fun v3 h2 =>
      zev r i_X6_nextPlan 2 [some (.ref x), some (.int v3), none] [] h2)
      else none) := zblk r [2, 13, 45] 48 _ _ _ _ _
set_option maxRecDepth 100000 in
theorem E_X6_valueOf_0 (r : zE) (h : zH) (x : Nat) (i1 : Int32) (i2 : Int32) : zev r i_X6_valueOf 0 [some (.ref x), some (.int i1), some (.int i2)] [] h =
    (if i1 = 0 then
      if zob r h x 6 = true then
      (zcI (zev r i_X6_allWoken 0 [some (.ref x), some (.int i2), none, none] [] h) fun v1 h1 =>
      some (some (.int v1), h1))
      else none
    else
      if i1 = (1 : Int32) then
        if zob r h x 6 = true then
        (zcI (zev r i_X6_mostWoken 0 [some (.ref x), some (.int i2), none, none, none] [] h) fun v2 h2 =>
        some (some (.int v2), h2))
        else none
      else
        if zob r h x 6 = true then
        (zcI (zev r i_X6_allWoken 0 [some (.ref x), some (.int (1 : Int32)), none, none] [] h) fun v3 h3 =>
        if zob r h3 x 6 = true then
        (zcI (zev r i_X6_allWoken 0 [some (.ref x), some (.int (2 : Int32)), none, none] [] h3) fun v4 h4 =>
        some (some (.int (v3 + v4)), h4))
        else none)
        else none) := zblk r [] 24 _ _ _ _ _
set_option maxRecDepth 100000 in
theorem E_X6_toBest_0 (r : zE) (h : zH) (x : Nat) (i1 : Int32) (i2 : Int32) (i3 : Int32) : zev r i_X6_toBest 0 [some (.ref x), some (.int i1), some (.int i2), some (.int i3), none, none, none, none] [] h =
    ((zgI r h x 6 3).bind fun v1 =>
    if v1 = 0 then
      some (some (.int (-4 : Int32)), h)
    else
      if zob r h x 6 = true then
      (zcV (zev r i_X6_firstPlan 0 [some (.ref x), none] [] h) fun h1 =>
      zev r i_X6_toBest 21 [some (.ref x), some (.int i1), some (.int i2), some (.int i3), some (.int (-9 : Int32)), some (.int (1 : Int32)), none, none] [] h1)
      else none) := zblk r [21, 64] 60 _ _ _ _ _
set_option maxRecDepth 100000 in
theorem E_X6_toBest_21 (r : zE) (h : zH) (x : Nat) (l1 : Int32) (l2 : Int32) (l3 : Int32) (l4 : Int32) (l5 : Int32) : zev r i_X6_toBest 21 [some (.ref x), some (.int l1), some (.int l2), some (.int l3), some (.int l4), some (.int l5), none, none] [] h =
    (if l5 = 0 then
      some (some (.int l4), h)
    else
      if zob r h x 6 = true then
      (zcI (zev r i_X6_valueOf 0 [some (.ref x), some (.int l1), some (.int l2)] [] h) fun v1 h1 =>
      if l4 = (-9 : Int32) then
        (zgI r h1 x 6 3).bind fun v2 =>
        if zob r h1 x 6 = true then
        (zcV (zev r i_X6_makeRow 0 [some (.ref x), some (.int l3), some (.int v2), none] [] h1) fun h2 =>
        zev r i_X6_toBest 64 [some (.ref x), some (.int l1), some (.int l2), some (.int l3), some (.int v1), some (.int l5), some (.int v1), some (.int (0 : Int32))] [] h2)
        else none
      else
        if v1 < l4 then
          (zgI r h1 x 6 3).bind fun v3 =>
          if zob r h1 x 6 = true then
          (zcV (zev r i_X6_makeRow 0 [some (.ref x), some (.int l3), some (.int v3), none] [] h1) fun h3 =>
          zev r i_X6_toBest 64 [some (.ref x), some (.int l1), some (.int l2), some (.int l3), some (.int v1), some (.int l5), some (.int v1), some (.int (0 : Int32))] [] h3)
          else none
        else
          if zob r h1 x 6 = true then
          (zcI (zev r i_X6_nextPlan 0 [some (.ref x), none, none] [] h1) fun v4 h4 =>
          zev r i_X6_toBest 21 [some (.ref x), some (.int l1), some (.int l2), some (.int l3), some (.int l4), some (.int v4), none, none] [] h4)
          else none)
      else none) := zblk r [21, 64] 60 _ _ _ _ _
set_option maxRecDepth 100000 in
theorem E_X6_toBest_64 (r : zE) (h : zH) (x : Nat) (l1 : Int32) (l2 : Int32) (l3 : Int32) (l4 : Int32) (l5 : Int32) (l6 : Int32) (l7 : Int32) : zev r i_X6_toBest 64 [some (.ref x), some (.int l1), some (.int l2), some (.int l3), some (.int l4), some (.int l5), some (.int l6), some (.int l7)] [] h =
    ((zgI r h x 6 3).bind fun v1 =>
    if l7 < v1 then
      (zgR r h x 6 8).bind fun v2 =>
      (zgR r h x 6 23).bind fun v3 =>
      (zaI r h v3 l7).bind fun v4 =>
      (zsI r h v2 (((40 : Int32) * l3) + l7) v4).bind fun h1 =>
      zev r i_X6_toBest 64 [some (.ref x), some (.int l1), some (.int l2), some (.int l3), some (.int l4), some (.int l5), some (.int l6), some (.int (l7 + (1 : Int32)))] [] h1
    else
      if zob r h x 6 = true then
      (zcI (zev r i_X6_nextPlan 0 [some (.ref x), none, none] [] h) fun v5 h2 =>
      zev r i_X6_toBest 21 [some (.ref x), some (.int l1), some (.int l2), some (.int l3), some (.int l4), some (.int v5), none, none] [] h2)
      else none) := zblk r [21, 64] 60 _ _ _ _ _
set_option maxRecDepth 100000 in
theorem E_X6_best_0 (r : zE) (h : zH) (x : Nat) (i1 : Int32) (i2 : Int32) : zev r i_X6_best 0 [some (.ref x), some (.int i1), some (.int i2)] [] h =
    (zcI (zev r i_X6_isWhen 0 [some (.int i1)] [] h) fun v1 h1 =>
    if v1 = 0 then
      some (some (.int (-1 : Int32)), h1)
    else
      zcI (zev r i_X6_isRow 0 [some (.int i2)] [] h1) fun v2 h2 =>
      if v2 = 0 then
        some (some (.int (-1 : Int32)), h2)
      else
        if zob r h2 x 6 = true then
        (zcI (zev r i_X6_toBest 0 [some (.ref x), some (.int (0 : Int32)), some (.int i1), some (.int i2), none, none, none, none] [] h2) fun v3 h3 =>
        some (some (.int v3), h3))
        else none) := zblk r [] 17 _ _ _ _ _
set_option maxRecDepth 100000 in
theorem E_X6_fair_0 (r : zE) (h : zH) (x : Nat) (i1 : Int32) (i2 : Int32) : zev r i_X6_fair 0 [some (.ref x), some (.int i1), some (.int i2)] [] h =
    (zcI (zev r i_X6_isWhen 0 [some (.int i1)] [] h) fun v1 h1 =>
    if v1 = 0 then
      some (some (.int (-1 : Int32)), h1)
    else
      zcI (zev r i_X6_isRow 0 [some (.int i2)] [] h1) fun v2 h2 =>
      if v2 = 0 then
        some (some (.int (-1 : Int32)), h2)
      else
        if zob r h2 x 6 = true then
        (zcI (zev r i_X6_toBest 0 [some (.ref x), some (.int (1 : Int32)), some (.int i1), some (.int i2), none, none, none, none] [] h2) fun v3 h3 =>
        some (some (.int v3), h3))
        else none) := zblk r [] 17 _ _ _ _ _
set_option maxRecDepth 100000 in
theorem E_X6_mixed_0 (r : zE) (h : zH) (x : Nat) (i1 : Int32) : zev r i_X6_mixed 0 [some (.ref x), some (.int i1)] [] h =
    (zcI (zev r i_X6_isRow 0 [some (.int i1)] [] h) fun v1 h1 =>
    if v1 = 0 then
      some (some (.int (-1 : Int32)), h1)
    else
      if zob r h1 x 6 = true then
      (zcI (zev r i_X6_toBest 0 [some (.ref x), some (.int (2 : Int32)), some (.int (0 : Int32)), some (.int i1), none, none, none, none] [] h1) fun v2 h2 =>
      some (some (.int v2), h2))
      else none) := zblk r [] 14 _ _ _ _ _
set_option maxRecDepth 100000 in
theorem E_X6_isPlan_0 (r : zE) (h : zH) (x : Nat) (i1 : Int32) : zev r i_X6_isPlan 0 [some (.ref x), some (.int i1), none, none] [] h =
    (zev r i_X6_isPlan 4 [some (.ref x), some (.int i1), some (.int (1 : Int32)), some (.int (0 : Int32))] [] h) := zblk r [4, 39] 51 _ _ _ _ _
set_option maxRecDepth 100000 in
theorem E_X6_isPlan_4 (r : zE) (h : zH) (x : Nat) (l1 : Int32) (l2 : Int32) (l3 : Int32) : zev r i_X6_isPlan 4 [some (.ref x), some (.int l1), some (.int l2), some (.int l3)] [] h =
    ((zgI r h x 6 3).bind fun v1 =>
    if l3 < v1 then
      if l2 = 0 then
        zev r i_X6_isPlan 39 [some (.ref x), some (.int l1), some (.int l2), some (.int l3)] [.int (0 : Int32)] h
      else
        (zgR r h x 6 8).bind fun v2 =>
        (zaI r h v2 (((40 : Int32) * l1) + l3)).bind fun v3 =>
        if zob r h x 6 = true then
        (zcI (zev r i_X6_isHook 0 [some (.ref x), some (.int v3)] [] h) fun v4 h1 =>
        if v4 = 0 then
          zev r i_X6_isPlan 39 [some (.ref x), some (.int l1), some (.int l2), some (.int l3)] [.int (0 : Int32)] h1
        else
          zev r i_X6_isPlan 39 [some (.ref x), some (.int l1), some (.int l2), some (.int l3)] [.int (1 : Int32)] h1)
        else none
    else
      if l2 = 0 then
        some (some (.int (0 : Int32)), h)
      else
        if zob r h x 6 = true then
        (zcI (zev r i_X6_areUnlike 0 [some (.ref x), none, none, none] [] h) fun v5 h2 =>
        if v5 = 0 then
          some (some (.int (0 : Int32)), h2)
        else
          some (some (.int (1 : Int32)), h2))
        else none) := zblk r [4, 39] 51 _ _ _ _ _
set_option maxRecDepth 100000 in
theorem E_X6_isPlan_39 (r : zE) (h : zH) (x : Nat) (l1 : Int32) (l2 : Int32) (l3 : Int32) (s0 : Int32) : zev r i_X6_isPlan 39 [some (.ref x), some (.int l1), some (.int l2), some (.int l3)] [.int s0] h =
    ((zgR r h x 6 23).bind fun v1 =>
    (zgR r h x 6 8).bind fun v2 =>
    (zaI r h v2 (((40 : Int32) * l1) + l3)).bind fun v3 =>
    (zsI r h v1 l3 v3).bind fun h1 =>
    zev r i_X6_isPlan 4 [some (.ref x), some (.int l1), some (.int s0), some (.int (l3 + (1 : Int32)))] [] h1) := zblk r [4, 39] 51 _ _ _ _ _
set_option maxRecDepth 100000 in
theorem E_X6_judge_0 (r : zE) (h : zH) (x : Nat) (i1 : Int32) (i2 : Int32) : zev r i_X6_judge 0 [some (.ref x), some (.int i1), some (.int i2)] [] h =
    (zcI (zev r i_X6_isRow 0 [some (.int i1)] [] h) fun v1 h1 =>
    if v1 = 0 then
      some (some (.int (-1 : Int32)), h1)
    else
      zcI (zev r i_X6_isWhen 0 [some (.int i2)] [] h1) fun v2 h2 =>
      if v2 = 0 then
        some (some (.int (-1 : Int32)), h2)
      else
        (zgI r h2 x 6 3).bind fun v3 =>
        if v3 = 0 then
          some (some (.int (-4 : Int32)), h2)
        else
          (zgR r h2 x 6 7).bind fun v4 =>
          (zaI r h2 v4 i1).bind fun v5 =>
          if v5 < 0 then
            if zob r h2 x 6 = true then
            (zcI (zev r i_X6_find 0 [some (.ref x), some (.int (1 : Int32))] [] h2) fun v6 h3 =>
            some (some (.int v6), h3))
            else none
          else
            (zgR r h2 x 6 7).bind fun v7 =>
            (zaI r h2 v7 i1).bind fun v8 =>
            (zgI r h2 x 6 3).bind fun v9 =>
            if v8 = v9 then
              if zob r h2 x 6 = true then
              (zcV (zev r i_X6_layNow 0 [some (.ref x), none] [] h2) fun h4 =>
              if zob r h4 x 6 = true then
              (zcI (zev r i_X6_isPlan 0 [some (.ref x), some (.int i1), none, none] [] h4) fun v10 h5 =>
              if v10 = 0 then
                if zob r h5 x 6 = true then
                (zcI (zev r i_X6_find 0 [some (.ref x), some (.int (3 : Int32))] [] h5) fun v11 h6 =>
                some (some (.int v11), h6))
                else none
              else
                if zob r h5 x 6 = true then
                (zcI (zev r i_X6_allWoken 0 [some (.ref x), some (.int i2), none, none] [] h5) fun v12 h7 =>
                some (some (.int v12), h7))
                else none)
              else none)
              else none
            else
              if zob r h2 x 6 = true then
              (zcI (zev r i_X6_find 0 [some (.ref x), some (.int (5 : Int32))] [] h2) fun v13 h8 =>
              some (some (.int v13), h8))
              else none) := zblk r [] 50 _ _ _ _ _
set_option maxRecDepth 100000 in
theorem E_X6_swap_0 (r : zE) (h : zH) (x : Nat) (i1 : Int32) (i2 : Int32) : zev r i_X6_swap 0 [some (.ref x), some (.int i1), some (.int i2), none] [] h =
    ((zgR r h x 6 23).bind fun v1 =>
    (zaI r h v1 i1).bind fun v2 =>
    (zgR r h x 6 23).bind fun v3 =>
    (zgR r h x 6 23).bind fun v4 =>
    (zaI r h v4 i2).bind fun v5 =>
    (zsI r h v3 i1 v5).bind fun h1 =>
    (zgR r h1 x 6 23).bind fun v6 =>
    (zsI r h1 v6 i2 v2).bind fun h2 =>
    some (none, h2)) := zblk r [] 22 _ _ _ _ _
set_option maxRecDepth 100000 in
theorem E_X6_gain_0 (r : zE) (h : zH) (x : Nat) (i1 : Int32) (i2 : Int32) (i3 : Int32) : zev r i_X6_gain 0 [some (.ref x), some (.int i1), some (.int i2), some (.int i3), none] [] h =
    (if zob r h x 6 = true then
    (zcI (zev r i_X6_areTwo 0 [some (.ref x), some (.int i1), some (.int i2)] [] h) fun v1 h1 =>
    if v1 = 0 then
      some (some (.int (-1 : Int32)), h1)
    else
      zcI (zev r i_X6_isWhen 0 [some (.int i3)] [] h1) fun v2 h2 =>
      if v2 = 0 then
        some (some (.int (-1 : Int32)), h2)
      else
        if zob r h2 x 6 = true then
        (zcV (zev r i_X6_layNow 0 [some (.ref x), none] [] h2) fun h3 =>
        if zob r h3 x 6 = true then
        (zcI (zev r i_X6_allWoken 0 [some (.ref x), some (.int i3), none, none] [] h3) fun v3 h4 =>
        if zob r h4 x 6 = true then
        (zcV (zev r i_X6_swap 0 [some (.ref x), some (.int i1), some (.int i2), none] [] h4) fun h5 =>
        if zob r h5 x 6 = true then
        (zcI (zev r i_X6_allWoken 0 [some (.ref x), some (.int i3), none, none] [] h5) fun v4 h6 =>
        some (some (.int (((100 : Int32) + v3) - v4)), h6))
        else none)
        else none)
        else none)
        else none)
    else none) := zblk r [] 31 _ _ _ _ _
set_option maxRecDepth 100000 in
theorem E_X6_wouldChange_0 (r : zE) (h : zH) (x : Nat) (i1 : Int32) (i2 : Int32) (i3 : Int32) : zev r i_X6_wouldChange 0 [some (.ref x), some (.int i1), some (.int i2), some (.int i3), none, none, none] [] h =
    (if zob r h x 6 = true then
    (zcI (zev r i_X6_isIn 0 [some (.ref x), some (.int i1), some (.int i3)] [] h) fun v1 h1 =>
    if v1 = 0 then
      some (some (.int (0 : Int32)), h1)
    else
      if zob r h1 x 6 = true then
      (zcI (zev r i_X6_isIn 0 [some (.ref x), some (.int i2), some (.int i3)] [] h1) fun v2 h2 =>
      if v2 = 0 then
        some (some (.int (0 : Int32)), h2)
      else
        if zob r h2 x 6 = true then
        (zcI (zev r i_X6_wokenBut 0 [some (.ref x), some (.int i1), some (.int i3), some (.int (-9 : Int32)), none, none] [] h2) fun v3 h3 =>
        if zob r h3 x 6 = true then
        (zcI (zev r i_X6_wokenBut 0 [some (.ref x), some (.int i2), some (.int i3), some (.int (-9 : Int32)), none, none] [] h3) fun v4 h4 =>
        if zob r h4 x 6 = true then
        (zcV (zev r i_X6_swap 0 [some (.ref x), some (.int i1), some (.int i2), none] [] h4) fun h5 =>
        if zob r h5 x 6 = true then
        (zcI (zev r i_X6_wokenBut 0 [some (.ref x), some (.int i1), some (.int i3), some (.int (-9 : Int32)), none, none] [] h5) fun v5 h6 =>
        if v5 < v3 then
          if zob r h6 x 6 = true then
          (zcI (zev r i_X6_wokenBut 0 [some (.ref x), some (.int i2), some (.int i3), some (.int (-9 : Int32)), none, none] [] h6) fun v6 h7 =>
          if v6 < v4 then
            if zob r h7 x 6 = true then
            (zcV (zev r i_X6_swap 0 [some (.ref x), some (.int i1), some (.int i2), none] [] h7) fun h8 =>
            some (some (.int (1 : Int32)), h8))
            else none
          else
            if zob r h7 x 6 = true then
            (zcV (zev r i_X6_swap 0 [some (.ref x), some (.int i1), some (.int i2), none] [] h7) fun h9 =>
            some (some (.int (0 : Int32)), h9))
            else none)
          else none
        else
          if zob r h6 x 6 = true then
          (zcV (zev r i_X6_swap 0 [some (.ref x), some (.int i1), some (.int i2), none] [] h6) fun h10 =>
          some (some (.int (0 : Int32)), h10))
          else none)
        else none)
        else none)
        else none)
        else none)
      else none)
    else none) := zblk r [] 55 _ _ _ _ _
set_option maxRecDepth 100000 in
theorem E_X6_calm_0 (r : zE) (h : zH) (x : Nat) (i1 : Int32) : zev r i_X6_calm 0 [some (.ref x), some (.int i1), none, none] [] h =
    (zcI (zev r i_X6_isWhen 0 [some (.int i1)] [] h) fun v1 h1 =>
    if v1 = 0 then
      some (some (.int (-1 : Int32)), h1)
    else
      if zob r h1 x 6 = true then
      (zcV (zev r i_X6_layNow 0 [some (.ref x), none] [] h1) fun h2 =>
      (zpF r h2 x 6 11 (.int (-9 : Int32))).bind fun h3 =>
      zev r i_X6_calm 21 [some (.ref x), some (.int i1), some (.int (0 : Int32)), none] [] h3)
      else none) := zblk r [21, 33] 59 _ _ _ _ _
set_option maxRecDepth 100000 in
theorem E_X6_calm_21 (r : zE) (h : zH) (x : Nat) (l1 : Int32) (l2 : Int32) : zev r i_X6_calm 21 [some (.ref x), some (.int l1), some (.int l2), none] [] h =
    ((zgI r h x 6 3).bind fun v1 =>
    if l2 < v1 then
      zev r i_X6_calm 33 [some (.ref x), some (.int l1), some (.int l2), some (.int (l2 + (1 : Int32)))] [] h
    else
      (zgI r h x 6 11).bind fun v2 =>
      if v2 = (-9 : Int32) then
        some (some (.int (1 : Int32)), h)
      else
        some (some (.int (0 : Int32)), h)) := zblk r [21, 33] 59 _ _ _ _ _
set_option maxRecDepth 100000 in
theorem E_X6_calm_33 (r : zE) (h : zH) (x : Nat) (l1 : Int32) (l2 : Int32) (l3 : Int32) : zev r i_X6_calm 33 [some (.ref x), some (.int l1), some (.int l2), some (.int l3)] [] h =
    ((zgI r h x 6 3).bind fun v1 =>
    if l3 < v1 then
      (zgI r h x 6 11).bind fun v2 =>
      if v2 = (-9 : Int32) then
        if zob r h x 6 = true then
        (zcI (zev r i_X6_wouldChange 0 [some (.ref x), some (.int l2), some (.int l3), some (.int l1), none, none, none] [] h) fun v3 h1 =>
        if v3 = 0 then
          (zgI r h1 x 6 11).bind fun v4 =>
          (zpF r h1 x 6 11 (.int v4)).bind fun h2 =>
          zev r i_X6_calm 33 [some (.ref x), some (.int l1), some (.int l2), some (.int (l3 + (1 : Int32)))] [] h2
        else
          (zpF r h1 x 6 11 (.int (((6 : Int32) * l2) + l3))).bind fun h3 =>
          zev r i_X6_calm 33 [some (.ref x), some (.int l1), some (.int l2), some (.int (l3 + (1 : Int32)))] [] h3)
        else none
      else
        (zgI r h x 6 11).bind fun v5 =>
        (zpF r h x 6 11 (.int v5)).bind fun h4 =>
        zev r i_X6_calm 33 [some (.ref x), some (.int l1), some (.int l2), some (.int (l3 + (1 : Int32)))] [] h4
    else
      zev r i_X6_calm 21 [some (.ref x), some (.int l1), some (.int (l2 + (1 : Int32))), none] [] h) := zblk r [21, 33] 59 _ _ _ _ _
set_option maxRecDepth 100000 in
theorem E_X6_matesTried_0 (r : zE) (h : zH) (x : Nat) : zev r i_X6_matesTried 0 [some (.ref x), none, none, none] [] h =
    (zev r i_X6_matesTried 4 [some (.ref x), some (.int (0 : Int32)), some (.int (0 : Int32)), none] [] h) := zblk r [4, 14] 43 _ _ _ _ _
set_option maxRecDepth 100000 in
theorem E_X6_matesTried_4 (r : zE) (h : zH) (x : Nat) (l1 : Int32) (l2 : Int32) : zev r i_X6_matesTried 4 [some (.ref x), some (.int l1), some (.int l2), none] [] h =
    ((zgI r h x 6 3).bind fun v1 =>
    if l2 < v1 then
      zev r i_X6_matesTried 14 [some (.ref x), some (.int l1), some (.int l2), some (.int (0 : Int32))] [] h
    else
      some (some (.int l1), h)) := zblk r [4, 14] 43 _ _ _ _ _
set_option maxRecDepth 100000 in
theorem E_X6_matesTried_14 (r : zE) (h : zH) (x : Nat) (l1 : Int32) (l2 : Int32) (l3 : Int32) : zev r i_X6_matesTried 14 [some (.ref x), some (.int l1), some (.int l2), some (.int l3)] [] h =
    (if l3 < l2 then
      (zgR r h x 6 6).bind fun v1 =>
      (zaI r h v1 l2).bind fun v2 =>
      (zgR r h x 6 6).bind fun v3 =>
      (zaI r h v3 l3).bind fun v4 =>
      if v2 = v4 then
        if zob r h x 6 = true then
        (zcI (zev r i_X6_isBeside 0 [some (.ref x), some (.int l3), some (.int l2), some (.int (0 : Int32)), none] [] h) fun v5 h1 =>
        if v5 = 0 then
          zev r i_X6_matesTried 14 [some (.ref x), some (.int (l1 + (0 : Int32))), some (.int l2), some (.int (l3 + (1 : Int32)))] [] h1
        else
          zev r i_X6_matesTried 14 [some (.ref x), some (.int (l1 + (1 : Int32))), some (.int l2), some (.int (l3 + (1 : Int32)))] [] h1)
        else none
      else
        zev r i_X6_matesTried 14 [some (.ref x), some (.int (l1 + (0 : Int32))), some (.int l2), some (.int (l3 + (1 : Int32)))] [] h
    else
      zev r i_X6_matesTried 4 [some (.ref x), some (.int l1), some (.int (l2 + (1 : Int32))), none] [] h) := zblk r [4, 14] 43 _ _ _ _ _
set_option maxRecDepth 100000 in
theorem E_X6_mates_0 (r : zE) (h : zH) (x : Nat) : zev r i_X6_mates 0 [some (.ref x), none, none, none] [] h =
    ((zgI r h x 6 3).bind fun v1 =>
    if v1 = 0 then
      some (some (.int (-4 : Int32)), h)
    else
      if zob r h x 6 = true then
      (zcV (zev r i_X6_layNow 0 [some (.ref x), none] [] h) fun h1 =>
      if zob r h1 x 6 = true then
      (zcI (zev r i_X6_matesTried 0 [some (.ref x), none, none, none] [] h1) fun v2 h2 =>
      (zpF r h2 x 6 11 (.int (0 : Int32))).bind fun h3 =>
      if zob r h3 x 6 = true then
      (zcV (zev r i_X6_firstPlan 0 [some (.ref x), none] [] h3) fun h4 =>
      zev r i_X6_mates 30 [some (.ref x), some (.int v2), some (.int (1 : Int32)), none] [] h4)
      else none)
      else none)
      else none) := zblk r [30] 41 _ _ _ _ _
set_option maxRecDepth 100000 in
theorem E_X6_mates_30 (r : zE) (h : zH) (x : Nat) (l1 : Int32) (l2 : Int32) : zev r i_X6_mates 30 [some (.ref x), some (.int l1), some (.int l2), none] [] h =
    (if l2 = 0 then
      some (some (.int l1), h)
    else
      if zob r h x 6 = true then
      (zcI (zev r i_X6_matesTried 0 [some (.ref x), none, none, none] [] h) fun v1 h1 =>
      (zgI r h1 x 6 11).bind fun v2 =>
      if v2 < v1 then
        (zpF r h1 x 6 11 (.int v1)).bind fun h2 =>
        if zob r h2 x 6 = true then
        (zcI (zev r i_X6_nextPlan 0 [some (.ref x), none, none] [] h2) fun v3 h3 =>
        zev r i_X6_mates 30 [some (.ref x), some (.int l1), some (.int v3), none] [] h3)
        else none
      else
        (zgI r h1 x 6 11).bind fun v4 =>
        (zpF r h1 x 6 11 (.int v4)).bind fun h4 =>
        if zob r h4 x 6 = true then
        (zcI (zev r i_X6_nextPlan 0 [some (.ref x), none, none] [] h4) fun v5 h5 =>
        zev r i_X6_mates 30 [some (.ref x), some (.int l1), some (.int v5), none] [] h5)
        else none)
      else none) := zblk r [30] 41 _ _ _ _ _
set_option maxRecDepth 100000 in
theorem E_X6_cut_0 (r : zE) (h : zH) (x : Nat) (i1 : Int32) (i2 : Int32) : zev r i_X6_cut 0 [some (.ref x), some (.int i1), some (.int i2), none, none, none, none] [] h =
    (if zob r h x 6 = true then
    (zcI (zev r i_X6_isMan 0 [some (.ref x), some (.int i1)] [] h) fun v1 h1 =>
    if v1 = 0 then
      some (some (.int (-1 : Int32)), h1)
    else
      zcI (zev r i_X6_isWhen 0 [some (.int i2)] [] h1) fun v2 h2 =>
      if v2 = 0 then
        some (some (.int (-1 : Int32)), h2)
      else
        if zob r h2 x 6 = true then
        (zcV (zev r i_X6_layNow 0 [some (.ref x), none] [] h2) fun h3 =>
        zev r i_X6_cut 27 [some (.ref x), some (.int i1), some (.int i2), some (.int (-9 : Int32)), some (.int (1 : Int32)), none, none] [] h3)
        else none)
    else none) := zblk r [27, 69] 59 _ _ _ _ _
set_option maxRecDepth 100000 in
theorem E_X6_cut_27 (r : zE) (h : zH) (x : Nat) (l1 : Int32) (l2 : Int32) (l3 : Int32) (l4 : Int32) : zev r i_X6_cut 27 [some (.ref x), some (.int l1), some (.int l2), some (.int l3), some (.int l4), none, none] [] h =
    (if l4 < (10 : Int32) then
      (zgR r h x 6 24).bind fun v1 =>
      (zsI r h v1 l1 l4).bind fun h1 =>
      if zob r h1 x 6 = true then
      (zcI (zev r i_X6_allWoken 0 [some (.ref x), some (.int l2), none, none] [] h1) fun v2 h2 =>
      if l3 = (-9 : Int32) then
        zev r i_X6_cut 69 [some (.ref x), some (.int l1), some (.int l2), some (.int l3), some (.int l4), some (.int v2), none] [.int (1 : Int32)] h2
      else
        (zgI r h2 x 6 11).bind fun v3 =>
        if v2 < v3 then
          zev r i_X6_cut 69 [some (.ref x), some (.int l1), some (.int l2), some (.int l3), some (.int l4), some (.int v2), none] [.int (1 : Int32)] h2
        else
          zev r i_X6_cut 69 [some (.ref x), some (.int l1), some (.int l2), some (.int l3), some (.int l4), some (.int v2), none] [.int (0 : Int32)] h2)
      else none
    else
      some (some (.int l3), h)) := zblk r [27, 69] 59 _ _ _ _ _
set_option maxRecDepth 100000 in
theorem E_X6_cut_69 (r : zE) (h : zH) (x : Nat) (l1 : Int32) (l2 : Int32) (l3 : Int32) (l4 : Int32) (l5 : Int32) (s0 : Int32) : zev r i_X6_cut 69 [some (.ref x), some (.int l1), some (.int l2), some (.int l3), some (.int l4), some (.int l5), none] [.int s0] h =
    (if s0 = 0 then
      if s0 = 0 then
        (zgI r h x 6 11).bind fun v1 =>
        (zpF r h x 6 11 (.int v1)).bind fun h1 =>
        zev r i_X6_cut 27 [some (.ref x), some (.int l1), some (.int l2), some (.int l3), some (.int (l4 + (1 : Int32))), none, none] [] h1
      else
        (zpF r h x 6 11 (.int l5)).bind fun h2 =>
        zev r i_X6_cut 27 [some (.ref x), some (.int l1), some (.int l2), some (.int l3), some (.int (l4 + (1 : Int32))), none, none] [] h2
    else
      if s0 = 0 then
        (zgI r h x 6 11).bind fun v2 =>
        (zpF r h x 6 11 (.int v2)).bind fun h3 =>
        zev r i_X6_cut 27 [some (.ref x), some (.int l1), some (.int l2), some (.int l4), some (.int (l4 + (1 : Int32))), none, none] [] h3
      else
        (zpF r h x 6 11 (.int l5)).bind fun h4 =>
        zev r i_X6_cut 27 [some (.ref x), some (.int l1), some (.int l2), some (.int l4), some (.int (l4 + (1 : Int32))), none, none] [] h4) := zblk r [27, 69] 59 _ _ _ _ _
set_option maxRecDepth 100000 in
theorem E_X6_nextOrder_0 (r : zE) (h : zH) (x : Nat) (i1 : Int32) : zev r i_X6_nextOrder 0 [some (.ref x), some (.int i1), none, none, none, none, none] [] h =
    (zev r i_X6_nextOrder 4 [some (.ref x), some (.int i1), some (.int (i1 - (2 : Int32))), none, none, none, none] [] h) := zblk r [4, 41, 100] 93 _ _ _ _ _
set_option maxRecDepth 100000 in
theorem E_X6_nextOrder_4 (r : zE) (h : zH) (x : Nat) (l1 : Int32) (l2 : Int32) : zev r i_X6_nextOrder 4 [some (.ref x), some (.int l1), some (.int l2), none, none, none, none] [] h =
    (if l2 < 0 then
      if l2 < 0 then
        some (some (.int (0 : Int32)), h)
      else
        zev r i_X6_nextOrder 41 [some (.ref x), some (.int l1), some (.int l2), some (.int (l1 - (1 : Int32))), none, none, none] [] h
    else
      (zgR r h x 6 25).bind fun v1 =>
      (zaI r h v1 l2).bind fun v2 =>
      (zgR r h x 6 25).bind fun v3 =>
      (zaI r h v3 (l2 + (1 : Int32))).bind fun v4 =>
      if v4 < v2 then
        zev r i_X6_nextOrder 4 [some (.ref x), some (.int l1), some (.int (l2 + (-1 : Int32))), none, none, none, none] [] h
      else
        if l2 < 0 then
          some (some (.int (0 : Int32)), h)
        else
          zev r i_X6_nextOrder 41 [some (.ref x), some (.int l1), some (.int l2), some (.int (l1 - (1 : Int32))), none, none, none] [] h) := zblk r [4, 41, 100] 93 _ _ _ _ _
set_option maxRecDepth 100000 in
theorem E_X6_nextOrder_41 (r : zE) (h : zH) (x : Nat) (l1 : Int32) (l2 : Int32) (l3 : Int32) : zev r i_X6_nextOrder 41 [some (.ref x), some (.int l1), some (.int l2), some (.int l3), none, none, none] [] h =
    ((zgR r h x 6 25).bind fun v1 =>
    (zaI r h v1 l3).bind fun v2 =>
    (zgR r h x 6 25).bind fun v3 =>
    (zaI r h v3 l2).bind fun v4 =>
    if v2 < v4 then
      zev r i_X6_nextOrder 41 [some (.ref x), some (.int l1), some (.int l2), some (.int (l3 + (-1 : Int32))), none, none, none] [] h
    else
      (zgR r h x 6 25).bind fun v5 =>
      (zaI r h v5 l2).bind fun v6 =>
      (zgR r h x 6 25).bind fun v7 =>
      (zgR r h x 6 25).bind fun v8 =>
      (zaI r h v8 l3).bind fun v9 =>
      (zsI r h v7 l2 v9).bind fun h1 =>
      (zgR r h1 x 6 25).bind fun v10 =>
      (zsI r h1 v10 l3 v6).bind fun h2 =>
      zev r i_X6_nextOrder 100 [some (.ref x), some (.int l1), some (.int l2), some (.int l3), some (.int v6), some (.int (l2 + (1 : Int32))), some (.int (l1 - (1 : Int32)))] [] h2) := zblk r [4, 41, 100] 93 _ _ _ _ _
set_option maxRecDepth 100000 in
theorem E_X6_nextOrder_100 (r : zE) (h : zH) (x : Nat) (l1 : Int32) (l2 : Int32) (l3 : Int32) (l4 : Int32) (l5 : Int32) (l6 : Int32) : zev r i_X6_nextOrder 100 [some (.ref x), some (.int l1), some (.int l2), some (.int l3), some (.int l4), some (.int l5), some (.int l6)] [] h =
    (if l5 < l6 then
      (zgR r h x 6 25).bind fun v1 =>
      (zaI r h v1 l5).bind fun v2 =>
      (zgR r h x 6 25).bind fun v3 =>
      (zgR r h x 6 25).bind fun v4 =>
      (zaI r h v4 l6).bind fun v5 =>
      (zsI r h v3 l5 v5).bind fun h1 =>
      (zgR r h1 x 6 25).bind fun v6 =>
      (zsI r h1 v6 l6 v2).bind fun h2 =>
      zev r i_X6_nextOrder 100 [some (.ref x), some (.int l1), some (.int l2), some (.int l3), some (.int v2), some (.int (l5 + (1 : Int32))), some (.int (l6 + (-1 : Int32)))] [] h2
    else
      some (some (.int (1 : Int32)), h)) := zblk r [4, 41, 100] 93 _ _ _ _ _
set_option maxRecDepth 100000 in
theorem E_X6_inTheWay_0 (r : zE) (h : zH) (x : Nat) (i1 : Int32) (i2 : Int32) : zev r i_X6_inTheWay 0 [some (.ref x), some (.int i1), some (.int i2), none, none, none] [] h =
    (zev r i_X6_inTheWay 5 [some (.ref x), some (.int i1), some (.int i2), some (.int (0 : Int32)), some (.int (0 : Int32)), none] [] h) := zblk r [5, 17] 50 _ _ _ _ _
set_option maxRecDepth 100000 in
theorem E_X6_inTheWay_5 (r : zE) (h : zH) (x : Nat) (l1 : Int32) (l2 : Int32) (l3 : Int32) (l4 : Int32) : zev r i_X6_inTheWay 5 [some (.ref x), some (.int l1), some (.int l2), some (.int l3), some (.int l4), none] [] h =
    (if l4 < l1 then
      zev r i_X6_inTheWay 17 [some (.ref x), some (.int l1), some (.int l2), some (.int l3), some (.int l4), some (.int (l4 + (1 : Int32)))] [] h
    else
      some (some (.int l3), h)) := zblk r [5, 17] 50 _ _ _ _ _
set_option maxRecDepth 100000 in
theorem E_X6_inTheWay_17 (r : zE) (h : zH) (x : Nat) (l1 : Int32) (l2 : Int32) (l3 : Int32) (l4 : Int32) (l5 : Int32) : zev r i_X6_inTheWay 17 [some (.ref x), some (.int l1), some (.int l2), some (.int l3), some (.int l4), some (.int l5)] [] h =
    (if l5 < l1 then
      (zgR r h x 6 25).bind fun v1 =>
      (zaI r h v1 l5).bind fun v2 =>
      (zgR r h x 6 25).bind fun v3 =>
      (zaI r h v3 l4).bind fun v4 =>
      if zob r h x 6 = true then
      (zcI (zev r i_X6_isBeside 0 [some (.ref x), some (.int v2), some (.int v4), some (.int l2), none] [] h) fun v5 h1 =>
      if v5 = 0 then
        zev r i_X6_inTheWay 17 [some (.ref x), some (.int l1), some (.int l2), some (.int (l3 + (0 : Int32))), some (.int l4), some (.int (l5 + (1 : Int32)))] [] h1
      else
        (zgR r h1 x 6 4).bind fun v6 =>
        (zgR r h1 x 6 25).bind fun v7 =>
        (zaI r h1 v7 l5).bind fun v8 =>
        (zaI r h1 v6 v8).bind fun v9 =>
        zcI (zev r i_X6_height 0 [some (.int v9)] [] h1) fun v10 h2 =>
        zev r i_X6_inTheWay 17 [some (.ref x), some (.int l1), some (.int l2), some (.int (l3 + ((1 : Int32) + v10))), some (.int l4), some (.int (l5 + (1 : Int32)))] [] h2)
      else none
    else
      zev r i_X6_inTheWay 5 [some (.ref x), some (.int l1), some (.int l2), some (.int l3), some (.int (l4 + (1 : Int32))), none] [] h) := zblk r [5, 17] 50 _ _ _ _ _
set_option maxRecDepth 100000 in
theorem E_X6_up_0 (r : zE) (h : zH) (x : Nat) (i1 : Int32) (i2 : Int32) : zev r i_X6_up 0 [some (.ref x), some (.int i1), some (.int i2), none, none, none, none, none] [] h =
    (zcI (zev r i_X6_isWhen 0 [some (.int i1)] [] h) fun v1 h1 =>
    if v1 = 0 then
      some (some (.int (-1 : Int32)), h1)
    else
      zcI (zev r i_X6_isRow 0 [some (.int i2)] [] h1) fun v2 h2 =>
      if v2 = 0 then
        some (some (.int (-1 : Int32)), h2)
      else
        (zgI r h2 x 6 3).bind fun v3 =>
        if v3 = 0 then
          some (some (.int (-4 : Int32)), h2)
        else
          if zob r h2 x 6 = true then
          (zcV (zev r i_X6_layNow 0 [some (.ref x), none] [] h2) fun h3 =>
          zev r i_X6_up 35 [some (.ref x), some (.int i1), some (.int i2), some (.int (0 : Int32)), some (.int (0 : Int32)), none, none, none] [] h3)
          else none) := zblk r [35, 78, 118] 88 _ _ _ _ _
set_option maxRecDepth 100000 in
theorem E_X6_up_35 (r : zE) (h : zH) (x : Nat) (l1 : Int32) (l2 : Int32) (l3 : Int32) (l4 : Int32) : zev r i_X6_up 35 [some (.ref x), some (.int l1), some (.int l2), some (.int l3), some (.int l4), none, none, none] [] h =
    ((zgI r h x 6 3).bind fun v1 =>
    if l4 < v1 then
      if zob r h x 6 = true then
      (zcI (zev r i_X6_isIn 0 [some (.ref x), some (.int l4), some (.int l1)] [] h) fun v2 h1 =>
      if v2 = 0 then
        zev r i_X6_up 35 [some (.ref x), some (.int l1), some (.int l2), some (.int l3), some (.int (l4 + (1 : Int32))), none, none, none] [] h1
      else
        (zgR r h1 x 6 25).bind fun v3 =>
        (zsI r h1 v3 l3 l4).bind fun h2 =>
        zev r i_X6_up 35 [some (.ref x), some (.int l1), some (.int l2), some (.int (l3 + (1 : Int32))), some (.int (l4 + (1 : Int32))), none, none, none] [] h2)
      else none
    else
      zev r i_X6_up 78 [some (.ref x), some (.int l1), some (.int l2), some (.int l3), some (.int (-9 : Int32)), some (.int (1 : Int32)), none, none] [] h) := zblk r [35, 78, 118] 88 _ _ _ _ _
set_option maxRecDepth 100000 in
theorem E_X6_up_78 (r : zE) (h : zH) (x : Nat) (l1 : Int32) (l2 : Int32) (l3 : Int32) (l4 : Int32) (l5 : Int32) : zev r i_X6_up 78 [some (.ref x), some (.int l1), some (.int l2), some (.int l3), some (.int l4), some (.int l5), none, none] [] h =
    (if l5 = 0 then
      some (some (.int l4), h)
    else
      if zob r h x 6 = true then
      (zcI (zev r i_X6_inTheWay 0 [some (.ref x), some (.int l3), some (.int l1), none, none, none] [] h) fun v1 h1 =>
      if l4 = (-9 : Int32) then
        if zob r h1 x 6 = true then
        (zcV (zev r i_X6_makeRow 0 [some (.ref x), some (.int l2), some (.int l3), none] [] h1) fun h2 =>
        zev r i_X6_up 118 [some (.ref x), some (.int l1), some (.int l2), some (.int l3), some (.int v1), some (.int l5), some (.int v1), some (.int (0 : Int32))] [] h2)
        else none
      else
        if v1 < l4 then
          if zob r h1 x 6 = true then
          (zcV (zev r i_X6_makeRow 0 [some (.ref x), some (.int l2), some (.int l3), none] [] h1) fun h3 =>
          zev r i_X6_up 118 [some (.ref x), some (.int l1), some (.int l2), some (.int l3), some (.int v1), some (.int l5), some (.int v1), some (.int (0 : Int32))] [] h3)
          else none
        else
          if zob r h1 x 6 = true then
          (zcI (zev r i_X6_nextOrder 0 [some (.ref x), some (.int l3), none, none, none, none, none] [] h1) fun v2 h4 =>
          zev r i_X6_up 78 [some (.ref x), some (.int l1), some (.int l2), some (.int l3), some (.int l4), some (.int v2), none, none] [] h4)
          else none)
      else none) := zblk r [35, 78, 118] 88 _ _ _ _ _
set_option maxRecDepth 100000 in
theorem E_X6_up_118 (r : zE) (h : zH) (x : Nat) (l1 : Int32) (l2 : Int32) (l3 : Int32) (l4 : Int32) (l5 : Int32) (l6 : Int32) (l7 : Int32) : zev r i_X6_up 118 [some (.ref x), some (.int l1), some (.int l2), some (.int l3), some (.int l4), some (.int l5), some (.int l6), some (.int l7)] [] h =
    (if l7 < l3 then
      (zgR r h x 6 8).bind fun v1 =>
      (zgR r h x 6 25).bind fun v2 =>
      (zaI r h v2 l7).bind fun v3 =>
      (zsI r h v1 (((40 : Int32) * l2) + l7) v3).bind fun h1 =>
      zev r i_X6_up 118 [some (.ref x), some (.int l1), some (.int l2), some (.int l3), some (.int l4), some (.int l5), some (.int l6), some (.int (l7 + (1 : Int32)))] [] h1
    else
      if zob r h x 6 = true then
      (zcI (zev r i_X6_nextOrder 0 [some (.ref x), some (.int l3), none, none, none, none, none] [] h) fun v4 h2 =>
      zev r i_X6_up 78 [some (.ref x), some (.int l1), some (.int l2), some (.int l3), some (.int l4), some (.int v4), none, none] [] h2)
      else none) := zblk r [35, 78, 118] 88 _ _ _ _ _
set_option maxRecDepth 100000 in
theorem E_X6_areWhens_0 (r : zE) (h : zH) (x : Nat) (i1 : Int32) : zev r i_X6_areWhens 0 [some (.ref x), some (.int i1), none, none] [] h =
    (zev r i_X6_areWhens 4 [some (.ref x), some (.int i1), some (.int (1 : Int32)), some (.int (0 : Int32))] [] h) := zblk r [4] 33 _ _ _ _ _
set_option maxRecDepth 100000 in
theorem E_X6_areWhens_4 (r : zE) (h : zH) (x : Nat) (l1 : Int32) (l2 : Int32) (l3 : Int32) : zev r i_X6_areWhens 4 [some (.ref x), some (.int l1), some (.int l2), some (.int l3)] [] h =
    ((zgR r h x 6 7).bind fun v1 =>
    (zaI r h v1 l1).bind fun v2 =>
    if l3 < v2 then
      if l2 = 0 then
        zev r i_X6_areWhens 4 [some (.ref x), some (.int l1), some (.int (0 : Int32)), some (.int (l3 + (2 : Int32)))] [] h
      else
        (zgR r h x 6 8).bind fun v3 =>
        (zaI r h v3 (((40 : Int32) * l1) + l3)).bind fun v4 =>
        zcI (zev r i_X6_isWhen 0 [some (.int v4)] [] h) fun v5 h1 =>
        if v5 = 0 then
          zev r i_X6_areWhens 4 [some (.ref x), some (.int l1), some (.int (0 : Int32)), some (.int (l3 + (2 : Int32)))] [] h1
        else
          zev r i_X6_areWhens 4 [some (.ref x), some (.int l1), some (.int (1 : Int32)), some (.int (l3 + (2 : Int32)))] [] h1
    else
      if l2 = 0 ∨ l2 = 1 then some (some (.int l2), h) else none) := zblk r [4] 33 _ _ _ _ _
set_option maxRecDepth 100000 in
theorem E_X6_isSo_0 (r : zE) (h : zH) (x : Nat) (i1 : Int32) : zev r i_X6_isSo 0 [some (.ref x), some (.int i1), none, none] [] h =
    (zev r i_X6_isSo 4 [some (.ref x), some (.int i1), some (.int (1 : Int32)), some (.int (0 : Int32))] [] h) := zblk r [4] 44 _ _ _ _ _
set_option maxRecDepth 100000 in
theorem E_X6_isSo_4 (r : zE) (h : zH) (x : Nat) (l1 : Int32) (l2 : Int32) (l3 : Int32) : zev r i_X6_isSo 4 [some (.ref x), some (.int l1), some (.int l2), some (.int l3)] [] h =
    ((zgR r h x 6 7).bind fun v1 =>
    (zaI r h v1 l1).bind fun v2 =>
    if l3 < v2 then
      if l2 = 0 then
        if l2 = 0 ∨ l2 = 1 then some (some (.int l2), h) else none
      else
        (zgR r h x 6 8).bind fun v3 =>
        (zaI r h v3 (((40 : Int32) * l1) + l3)).bind fun v4 =>
        if zob r h x 6 = true then
        (zcI (zev r i_X6_allWoken 0 [some (.ref x), some (.int v4), none, none] [] h) fun v5 h1 =>
        (zgR r h1 x 6 8).bind fun v6 =>
        (zaI r h1 v6 ((((40 : Int32) * l1) + l3) + (1 : Int32))).bind fun v7 =>
        if v5 = v7 then
          zev r i_X6_isSo 4 [some (.ref x), some (.int l1), some (.int (1 : Int32)), some (.int (l3 + (2 : Int32)))] [] h1
        else
          zev r i_X6_isSo 4 [some (.ref x), some (.int l1), some (.int (0 : Int32)), some (.int (l3 + (2 : Int32)))] [] h1)
        else none
    else
      if l2 = 0 ∨ l2 = 1 then some (some (.int l2), h) else none) := zblk r [4] 44 _ _ _ _ _
set_option maxRecDepth 100000 in
theorem E_X6_fits_0 (r : zE) (h : zH) (x : Nat) (i1 : Int32) : zev r i_X6_fits 0 [some (.ref x), some (.int i1), none, none, none] [] h =
    (zcI (zev r i_X6_isRow 0 [some (.int i1)] [] h) fun v1 h1 =>
    if v1 = 0 then
      some (some (.int (-1 : Int32)), h1)
    else
      (zgI r h1 x 6 3).bind fun v2 =>
      if v2 = 0 then
        some (some (.int (-4 : Int32)), h1)
      else
        (zgR r h1 x 6 7).bind fun v3 =>
        (zaI r h1 v3 i1).bind fun v4 =>
        if v4 < 0 then
          if zob r h1 x 6 = true then
          (zcI (zev r i_X6_find 0 [some (.ref x), some (.int (1 : Int32))] [] h1) fun v5 h2 =>
          some (some (.int v5), h2))
          else none
        else
          (zgR r h1 x 6 7).bind fun v6 =>
          (zaI r h1 v6 i1).bind fun v7 =>
          if (2 : Int32) = 0 then none else
          if (v7 - v7 / (2 : Int32) * (2 : Int32)) = 0 then
            if zob r h1 x 6 = true then
            (zcI (zev r i_X6_areWhens 0 [some (.ref x), some (.int i1), none, none] [] h1) fun v8 h3 =>
            if v8 = 0 then
              if zob r h3 x 6 = true then
              (zcI (zev r i_X6_find 0 [some (.ref x), some (.int (3 : Int32))] [] h3) fun v9 h4 =>
              some (some (.int v9), h4))
              else none
            else
              if zob r h3 x 6 = true then
              (zcV (zev r i_X6_firstPlan 0 [some (.ref x), none] [] h3) fun h5 =>
              zev r i_X6_fits 77 [some (.ref x), some (.int i1), some (.int (0 : Int32)), some (.int (-9 : Int32)), some (.int (1 : Int32))] [] h5)
              else none)
            else none
          else
            if zob r h1 x 6 = true then
            (zcI (zev r i_X6_find 0 [some (.ref x), some (.int (5 : Int32))] [] h1) fun v10 h6 =>
            some (some (.int v10), h6))
            else none) := zblk r [77] 87 _ _ _ _ _
set_option maxRecDepth 100000 in
theorem E_X6_fits_77 (r : zE) (h : zH) (x : Nat) (l1 : Int32) (l2 : Int32) (l3 : Int32) (l4 : Int32) : zev r i_X6_fits 77 [some (.ref x), some (.int l1), some (.int l2), some (.int l3), some (.int l4)] [] h =
    (if l4 = 0 then
      (zpF r h x 6 11 (.int l3)).bind fun h1 =>
      (zpF r h1 x 6 12 (.long l2.toInt64)).bind fun h2 =>
      (zpF r h2 x 6 13 (.long (1 : Int64))).bind fun h3 =>
      some (some (.int (1 : Int32)), h3)
    else
      if zob r h x 6 = true then
      (zcI (zev r i_X6_isSo 0 [some (.ref x), some (.int l1), none, none] [] h) fun v1 h4 =>
      if v1 = 0 then
        if zob r h4 x 6 = true then
        (zcI (zev r i_X6_nextPlan 0 [some (.ref x), none, none] [] h4) fun v2 h5 =>
        zev r i_X6_fits 77 [some (.ref x), some (.int l1), some (.int l2), some (.int l3), some (.int v2)] [] h5)
        else none
      else
        if l2 = 0 then
          (zgR r h4 x 6 23).bind fun v3 =>
          (zaI r h4 v3 (0 : Int32)).bind fun v4 =>
          if zob r h4 x 6 = true then
          (zcI (zev r i_X6_nextPlan 0 [some (.ref x), none, none] [] h4) fun v5 h6 =>
          zev r i_X6_fits 77 [some (.ref x), some (.int l1), some (.int (l2 + (1 : Int32))), some (.int v4), some (.int v5)] [] h6)
          else none
        else
          (zgR r h4 x 6 23).bind fun v6 =>
          (zaI r h4 v6 (0 : Int32)).bind fun v7 =>
          if l3 = v7 then
            (zgR r h4 x 6 23).bind fun v8 =>
            (zaI r h4 v8 (0 : Int32)).bind fun v9 =>
            if zob r h4 x 6 = true then
            (zcI (zev r i_X6_nextPlan 0 [some (.ref x), none, none] [] h4) fun v10 h7 =>
            zev r i_X6_fits 77 [some (.ref x), some (.int l1), some (.int (l2 + (1 : Int32))), some (.int v9), some (.int v10)] [] h7)
            else none
          else
            if zob r h4 x 6 = true then
            (zcI (zev r i_X6_nextPlan 0 [some (.ref x), none, none] [] h4) fun v11 h8 =>
            zev r i_X6_fits 77 [some (.ref x), some (.int l1), some (.int (l2 + (1 : Int32))), some (.int (-9 : Int32)), some (.int v11)] [] h8)
            else none)
      else none) := zblk r [77] 87 _ _ _ _ _
set_option maxRecDepth 100000 in
theorem E_X6_mid_0 (r : zE) (h : zH) (x : Nat) (i1 : Int32) : zev r i_X6_mid 0 [some (.ref x), some (.int i1), none, none, none, none, none, none, none, none, none, none, none] [] h =
    (zcI (zev r i_X6_isWhen 0 [some (.int i1)] [] h) fun v1 h1 =>
    if v1 = 0 then
      some (some (.int (-1 : Int32)), h1)
    else
      (zgI r h1 x 6 3).bind fun v2 =>
      if v2 = 0 then
        some (some (.int (-4 : Int32)), h1)
      else
        if zob r h1 x 6 = true then
        (zcV (zev r i_X6_firstPlan 0 [some (.ref x), none] [] h1) fun h2 =>
        zev r i_X6_mid 31 [some (.ref x), some (.int i1), some (.long (0 : Int64)), none, some (.long (0 : Int64)), none, some (.int (1 : Int32)), none, none, none, none, none, none] [] h2)
        else none) := zblk r [31, 67] 67 _ _ _ _ _
set_option maxRecDepth 100000 in
theorem E_X6_mid_31 (r : zE) (h : zH) (x : Nat) (l1 : Int32) (l2 : Int64) (l4 : Int64) (l6 : Int32) : zev r i_X6_mid 31 [some (.ref x), some (.int l1), some (.long l2), none, some (.long l4), none, some (.int l6), none, none, none, none, none, none] [] h =
    (if l6 = 0 then
      zev r i_X6_mid 67 [some (.ref x), some (.int l1), some (.long l2), none, some (.long l4), none, some (.int l6), some (.long l2), none, some (.long l4), none, none, none] [] h
    else
      if zob r h x 6 = true then
      (zcI (zev r i_X6_allWoken 0 [some (.ref x), some (.int l1), none, none] [] h) fun v1 h1 =>
      if zob r h1 x 6 = true then
      (zcI (zev r i_X6_nextPlan 0 [some (.ref x), none, none] [] h1) fun v2 h2 =>
      zev r i_X6_mid 31 [some (.ref x), some (.int l1), some (.long (l2 + v1.toInt64)), none, some (.long (l4 + (1 : Int64))), none, some (.int v2), none, none, none, none, none, none] [] h2)
      else none)
      else none) := zblk r [31, 67] 67 _ _ _ _ _
set_option maxRecDepth 100000 in
theorem E_X6_mid_67 (r : zE) (h : zH) (x : Nat) (l1 : Int32) (l2 : Int64) (l4 : Int64) (l6 : Int32) (l7 : Int64) (l9 : Int64) : zev r i_X6_mid 67 [some (.ref x), some (.int l1), some (.long l2), none, some (.long l4), none, some (.int l6), some (.long l7), none, some (.long l9), none, none, none] [] h =
    (if (lg_cmp l9 (0 : Int64)) = 0 then
      if l7 = 0 then none else
      (zpF r h x 6 12 (.long (l2 / l7))).bind fun h1 =>
      if l7 = 0 then none else
      (zpF r h1 x 6 13 (.long (l4 / l7))).bind fun h2 =>
      some (some (.int (1 : Int32)), h2)
    else
      if l9 = 0 then none else
      zev r i_X6_mid 67 [some (.ref x), some (.int l1), some (.long l2), none, some (.long l4), none, some (.int l6), some (.long l9), none, some (.long (l7 - l7 / l9 * l9)), none, none, none] [] h) := zblk r [31, 67] 67 _ _ _ _ _
set_option maxRecDepth 100000 in
theorem E_X6_lots_0 (r : zE) (h : zH) (x : Nat) (i1 : Int32) (i2 : Int32) : zev r i_X6_lots 0 [some (.ref x), some (.int i1), some (.int i2), none, none, none, none] [] h =
    (zcI (zev r i_X6_in 0 [some (.long i1.toInt64), none, some (.long (1 : Int64)), none, some (.long (20 : Int64)), none] [] h) fun v1 h1 =>
    if v1 = 0 then
      some (some (.int (-1 : Int32)), h1)
    else
      zcI (zev r i_X6_in 0 [some (.long i2.toInt64), none, some (.long (1 : Int64)), none, some (.long (2147483646 : Int64)), none] [] h1) fun v2 h2 =>
      if v2 = 0 then
        some (some (.int (-1 : Int32)), h2)
      else
        (zgI r h2 x 6 3).bind fun v3 =>
        if v3 = 0 then
          some (some (.int (-4 : Int32)), h2)
        else
          (zgR r h2 x 6 0).bind fun v4 =>
          (zaI r h2 v4 (0 : Int32)).bind fun v5 =>
          if (60 : Int32) < (v5 + i1) then
            some (some (.int (-2 : Int32)), h2)
          else
            zev r i_X6_lots 61 [some (.ref x), some (.int i1), some (.int i2), some (.long i2.toInt64), none, some (.int (0 : Int32)), some (.int (0 : Int32))] [] h2) := zblk r [61] 63 _ _ _ _ _
set_option maxRecDepth 100000 in
theorem E_X6_lots_61 (r : zE) (h : zH) (x : Nat) (l1 : Int32) (l2 : Int32) (l3 : Int64) (l5 : Int32) (l6 : Int32) : zev r i_X6_lots 61 [some (.ref x), some (.int l1), some (.int l2), some (.long l3), none, some (.int l5), some (.int l6)] [] h =
    (if l6 < l1 then
      if (2147483647 : Int64) = 0 then none else
      if (16 : Int64) = 0 then none else
      if (3 : Int64) = 0 then none else
      if zob r h x 6 = true then
      (zcI (zev r i_X6_pass 0 [some (.ref x), some (.int (((((l3 * (48271 : Int64)) - (l3 * (48271 : Int64)) / (2147483647 : Int64) * (2147483647 : Int64)) / (16 : Int64)) - (((l3 * (48271 : Int64)) - (l3 * (48271 : Int64)) / (2147483647 : Int64) * (2147483647 : Int64)) / (16 : Int64)) / (3 : Int64) * (3 : Int64)).toInt32)), none, none, none] [] h) fun v1 h1 =>
      zev r i_X6_lots 61 [some (.ref x), some (.int l1), some (.int l2), some (.long ((l3 * (48271 : Int64)) - (l3 * (48271 : Int64)) / (2147483647 : Int64) * (2147483647 : Int64))), none, some (.int (l5 + v1)), some (.int (l6 + (1 : Int32)))] [] h1)
      else none
    else
      some (some (.int l5), h)) := zblk r [61] 63 _ _ _ _ _
set_option maxRecDepth 100000 in
theorem E_X6_asked_0 (r : zE) (h : zH) (x : Nat) : zev r i_X6_asked 0 [some (.ref x)] [] h =
    ((zgI r h x 6 11).bind fun v1 =>
    some (some (.int v1), h)) := zblk r [] 6 _ _ _ _ _
set_option maxRecDepth 100000 in
theorem E_X6_upper_0 (r : zE) (h : zH) (x : Nat) : zev r i_X6_upper 0 [some (.ref x)] [] h =
    ((zgL r h x 6 12).bind fun v1 =>
    some (some (.long v1), h)) := zblk r [] 6 _ _ _ _ _
set_option maxRecDepth 100000 in
theorem E_X6_lower_0 (r : zE) (h : zH) (x : Nat) : zev r i_X6_lower 0 [some (.ref x)] [] h =
    ((zgL r h x 6 13).bind fun v1 =>
    some (some (.long v1), h)) := zblk r [] 6 _ _ _ _ _
set_option maxRecDepth 100000 in
theorem E_X6_hungMany_0 (r : zE) (h : zH) (x : Nat) : zev r i_X6_hungMany 0 [some (.ref x), none, none] [] h =
    (zev r i_X6_hungMany 4 [some (.ref x), some (.int (0 : Int32)), some (.int (0 : Int32))] [] h) := zblk r [4] 29 _ _ _ _ _
set_option maxRecDepth 100000 in
theorem E_X6_hungMany_4 (r : zE) (h : zH) (x : Nat) (l1 : Int32) (l2 : Int32) : zev r i_X6_hungMany 4 [some (.ref x), some (.int l1), some (.int l2)] [] h =
    ((zgI r h x 6 3).bind fun v1 =>
    if l2 < v1 then
      (zgR r h x 6 0).bind fun v2 =>
      (zaI r h v2 ((1 : Int32) + l2)).bind fun v3 =>
      if v3 = (-9 : Int32) then
        zev r i_X6_hungMany 4 [some (.ref x), some (.int (l1 + (0 : Int32))), some (.int (l2 + (1 : Int32)))] [] h
      else
        zev r i_X6_hungMany 4 [some (.ref x), some (.int (l1 + (1 : Int32))), some (.int (l2 + (1 : Int32)))] [] h
    else
      some (some (.int l1), h)) := zblk r [4] 29 _ _ _ _ _
set_option maxRecDepth 100000 in
theorem E_X6_tiredAll_0 (r : zE) (h : zH) (x : Nat) : zev r i_X6_tiredAll 0 [some (.ref x), none, none] [] h =
    (zev r i_X6_tiredAll 4 [some (.ref x), some (.int (0 : Int32)), some (.int (0 : Int32))] [] h) := zblk r [4] 24 _ _ _ _ _
set_option maxRecDepth 100000 in
theorem E_X6_tiredAll_4 (r : zE) (h : zH) (x : Nat) (l1 : Int32) (l2 : Int32) : zev r i_X6_tiredAll 4 [some (.ref x), some (.int l1), some (.int l2)] [] h =
    ((zgI r h x 6 3).bind fun v1 =>
    if l2 < v1 then
      (zgR r h x 6 0).bind fun v2 =>
      (zaI r h v2 ((13 : Int32) + l2)).bind fun v3 =>
      zev r i_X6_tiredAll 4 [some (.ref x), some (.int (l1 + v3)), some (.int (l2 + (1 : Int32)))] [] h
    else
      some (some (.int l1), h)) := zblk r [4] 24 _ _ _ _ _
set_option maxRecDepth 100000 in
theorem E_X6_thereOf_0 (r : zE) (h : zH) (x : Nat) (i1 : Int32) : zev r i_X6_thereOf 0 [some (.ref x), some (.int i1), none, none] [] h =
    (zev r i_X6_thereOf 4 [some (.ref x), some (.int i1), some (.int (0 : Int32)), some (.int (0 : Int32))] [] h) := zblk r [4] 61 _ _ _ _ _
set_option maxRecDepth 100000 in
theorem E_X6_thereOf_4 (r : zE) (h : zH) (x : Nat) (l1 : Int32) (l2 : Int32) (l3 : Int32) : zev r i_X6_thereOf 4 [some (.ref x), some (.int l1), some (.int l2), some (.int l3)] [] h =
    (if l3 < (6 : Int32) then
      if l1 = (6 : Int32) then
        (zgR r h x 6 7).bind fun v1 =>
        (zaI r h v1 l3).bind fun v2 =>
        if v2 < 0 then
          zev r i_X6_thereOf 4 [some (.ref x), some (.int l1), some (.int (l2 + (0 : Int32))), some (.int (l3 + (1 : Int32)))] [] h
        else
          zev r i_X6_thereOf 4 [some (.ref x), some (.int l1), some (.int (l2 + (1 : Int32))), some (.int (l3 + (1 : Int32)))] [] h
      else
        if l1 = (7 : Int32) then
          if l3 < (4 : Int32) then
            (zgR r h x 6 9).bind fun v3 =>
            (zaI r h v3 l3).bind fun v4 =>
            if v4 < 0 then
              zev r i_X6_thereOf 4 [some (.ref x), some (.int l1), some (.int (l2 + (0 : Int32))), some (.int (l3 + (1 : Int32)))] [] h
            else
              zev r i_X6_thereOf 4 [some (.ref x), some (.int l1), some (.int (l2 + (1 : Int32))), some (.int (l3 + (1 : Int32)))] [] h
          else
            zev r i_X6_thereOf 4 [some (.ref x), some (.int l1), some (.int (l2 + (0 : Int32))), some (.int (l3 + (1 : Int32)))] [] h
        else
          if l3 < (3 : Int32) then
            (zgR r h x 6 0).bind fun v5 =>
            (zaI r h v5 (((1099 : Int32) * ((1 : Int32) + l3)) + (0 : Int32))).bind fun v6 =>
            if v6 < 0 then
              zev r i_X6_thereOf 4 [some (.ref x), some (.int l1), some (.int (l2 + (0 : Int32))), some (.int (l3 + (1 : Int32)))] [] h
            else
              zev r i_X6_thereOf 4 [some (.ref x), some (.int l1), some (.int (l2 + (1 : Int32))), some (.int (l3 + (1 : Int32)))] [] h
          else
            zev r i_X6_thereOf 4 [some (.ref x), some (.int l1), some (.int (l2 + (0 : Int32))), some (.int (l3 + (1 : Int32)))] [] h
    else
      some (some (.int l2), h)) := zblk r [4] 61 _ _ _ _ _
set_option maxRecDepth 100000 in
theorem E_X6_countOf_0 (r : zE) (h : zH) (x : Nat) (i1 : Int32) : zev r i_X6_countOf 0 [some (.ref x), some (.int i1)] [] h =
    (if i1 = (0 : Int32) then
      (zgI r h x 6 3).bind fun v1 =>
      some (some (.int v1), h)
    else if i1 = (1 : Int32) then
      (zgI r h x 6 1).bind fun v2 =>
      some (some (.int v2), h)
    else if i1 = (2 : Int32) then
      (zgR r h x 6 0).bind fun v3 =>
      (zaI r h v3 (0 : Int32)).bind fun v4 =>
      some (some (.int v4), h)
    else if i1 = (3 : Int32) then
      if zob r h x 6 = true then
      (zcI (zev r i_X6_hungMany 0 [some (.ref x), none, none] [] h) fun v5 h1 =>
      some (some (.int v5), h1))
      else none
    else if i1 = (4 : Int32) then
      if zob r h x 6 = true then
      (zcI (zev r i_X6_tiredAll 0 [some (.ref x), none, none] [] h) fun v6 h2 =>
      some (some (.int v6), h2))
      else none
    else if i1 = (5 : Int32) then
      if zob r h x 6 = true then
      (zcI (zev r i_X6_tallMany 0 [some (.ref x), none, none] [] h) fun v7 h3 =>
      some (some (.int v7), h3))
      else none
    else if zob r h x 6 = true then
      (zcI (zev r i_X6_thereOf 0 [some (.ref x), some (.int i1), none, none] [] h) fun v8 h4 =>
      some (some (.int v8), h4))
      else none) := zblk r [] 29 _ _ _ _ _
set_option maxRecDepth 100000 in
theorem E_X6_count_0 (r : zE) (h : zH) (x : Nat) (i1 : Int32) : zev r i_X6_count 0 [some (.ref x), some (.int i1)] [] h =
    (zcI (zev r i_X6_in 0 [some (.long i1.toInt64), none, some (.long (0 : Int64)), none, some (.long (8 : Int64)), none] [] h) fun v1 h1 =>
    if v1 = 0 then
      some (some (.int (-1 : Int32)), h1)
    else
      if zob r h1 x 6 = true then
      (zcI (zev r i_X6_countOf 0 [some (.ref x), some (.int i1)] [] h1) fun v2 h2 =>
      some (some (.int v2), h2))
      else none) := zblk r [] 15 _ _ _ _ _
set_option maxRecDepth 100000 in
theorem E_X6_finding_0 (r : zE) (h : zH) (x : Nat) : zev r i_X6_finding 0 [some (.ref x)] [] h =
    ((zgI r h x 6 14).bind fun v1 =>
    some (some (.int v1), h)) := zblk r [] 6 _ _ _ _ _
set_option maxRecDepth 100000 in
theorem E_X6_findings_0 (r : zE) (h : zH) (x : Nat) (i1 : Int32) : zev r i_X6_findings 0 [some (.ref x), some (.int i1)] [] h =
    (zcI (zev r i_X6_in 0 [some (.long i1.toInt64), none, some (.long (1 : Int64)), none, some (.long (5 : Int64)), none] [] h) fun v1 h1 =>
    if v1 = 0 then
      some (some (.int (-1 : Int32)), h1)
    else
      (zgR r h1 x 6 15).bind fun v2 =>
      (zaI r h1 v2 i1).bind fun v3 =>
      some (some (.int v3), h1)) := zblk r [] 16 _ _ _ _ _
set_option maxRecDepth 100000 in
theorem E_X6_digest_0 (r : zE) (h : zH) (x : Nat) : zev r i_X6_digest 0 [some (.ref x), none, none, none, none] [] h =
    (zev r i_X6_digest 6 [some (.ref x), some (.long (17 : Int64)), none, some (.int (0 : Int32)), none] [] h) := zblk r [6, 33, 76, 115, 148, 171, 216, 238] 177 _ _ _ _ _
set_option maxRecDepth 100000 in
theorem E_X6_digest_6 (r : zE) (h : zH) (x : Nat) (l1 : Int64) (l3 : Int32) : zev r i_X6_digest 6 [some (.ref x), some (.long l1), none, some (.int l3), none] [] h =
    (if l3 < (9 : Int32) then
      if zob r h x 6 = true then
      (zcI (zev r i_X6_countOf 0 [some (.ref x), some (.int l3)] [] h) fun v1 h1 =>
      zev r i_X6_digest 6 [some (.ref x), some (.long (((31 : Int64) * l1) + v1.toInt64)), none, some (.int (l3 + (1 : Int32))), none] [] h1)
      else none
    else
      zev r i_X6_digest 33 [some (.ref x), some (.long l1), none, some (.int (0 : Int32)), none] [] h) := zblk r [6, 33, 76, 115, 148, 171, 216, 238] 177 _ _ _ _ _
set_option maxRecDepth 100000 in
theorem E_X6_digest_33 (r : zE) (h : zH) (x : Nat) (l1 : Int64) (l3 : Int32) : zev r i_X6_digest 33 [some (.ref x), some (.long l1), none, some (.int l3), none] [] h =
    ((zgI r h x 6 1).bind fun v1 =>
    if l3 < v1 then
      (zgR r h x 6 2).bind fun v2 =>
      (zaI r h v2 l3).bind fun v3 =>
      if zob r h x 6 = true then
      (zcI (zev r i_X6_whoAt 0 [some (.ref x), some (.int l3), none] [] h) fun v4 h1 =>
      zev r i_X6_digest 33 [some (.ref x), some (.long (((31 : Int64) * (((31 : Int64) * l1) + v3.toInt64)) + v4.toInt64)), none, some (.int (l3 + (1 : Int32))), none] [] h1)
      else none
    else
      zev r i_X6_digest 76 [some (.ref x), some (.long l1), none, some (.int (0 : Int32)), none] [] h) := zblk r [6, 33, 76, 115, 148, 171, 216, 238] 177 _ _ _ _ _
set_option maxRecDepth 100000 in
theorem E_X6_digest_76 (r : zE) (h : zH) (x : Nat) (l1 : Int64) (l3 : Int32) : zev r i_X6_digest 76 [some (.ref x), some (.long l1), none, some (.int l3), none] [] h =
    ((zgI r h x 6 3).bind fun v1 =>
    if l3 < ((6 : Int32) * v1) then
      if (6 : Int32) = 0 then none else
      if (6 : Int32) = 0 then none else
      if zob r h x 6 = true then
      (zcI (zev r i_X6_toldOf 0 [some (.ref x), some (.int (l3 / (6 : Int32))), some (.int (l3 - l3 / (6 : Int32) * (6 : Int32)))] [] h) fun v2 h1 =>
      zev r i_X6_digest 76 [some (.ref x), some (.long (((31 : Int64) * l1) + v2.toInt64)), none, some (.int (l3 + (1 : Int32))), none] [] h1)
      else none
    else
      zev r i_X6_digest 115 [some (.ref x), some (.long l1), none, some (.int (1 : Int32)), none] [] h) := zblk r [6, 33, 76, 115, 148, 171, 216, 238] 177 _ _ _ _ _
set_option maxRecDepth 100000 in
theorem E_X6_digest_115 (r : zE) (h : zH) (x : Nat) (l1 : Int64) (l3 : Int32) : zev r i_X6_digest 115 [some (.ref x), some (.long l1), none, some (.int l3), none] [] h =
    (if l3 < (4 : Int32) then
      (zgR r h x 6 0).bind fun v1 =>
      (zaI r h v1 (((1099 : Int32) * l3) + (0 : Int32))).bind fun v2 =>
      zev r i_X6_digest 115 [some (.ref x), some (.long (((31 : Int64) * l1) + v2.toInt64)), none, some (.int (l3 + (1 : Int32))), none] [] h
    else
      zev r i_X6_digest 148 [some (.ref x), some (.long l1), none, some (.int (0 : Int32)), none] [] h) := zblk r [6, 33, 76, 115, 148, 171, 216, 238] 177 _ _ _ _ _
set_option maxRecDepth 100000 in
theorem E_X6_digest_148 (r : zE) (h : zH) (x : Nat) (l1 : Int64) (l3 : Int32) : zev r i_X6_digest 148 [some (.ref x), some (.long l1), none, some (.int l3), none] [] h =
    (if l3 < (6 : Int32) then
      (zgR r h x 6 7).bind fun v1 =>
      (zaI r h v1 l3).bind fun v2 =>
      zev r i_X6_digest 171 [some (.ref x), some (.long (((31 : Int64) * l1) + v2.toInt64)), none, some (.int l3), some (.int (0 : Int32))] [] h
    else
      zev r i_X6_digest 216 [some (.ref x), some (.long l1), none, some (.int (0 : Int32)), none] [] h) := zblk r [6, 33, 76, 115, 148, 171, 216, 238] 177 _ _ _ _ _
set_option maxRecDepth 100000 in
theorem E_X6_digest_171 (r : zE) (h : zH) (x : Nat) (l1 : Int64) (l3 : Int32) (l4 : Int32) : zev r i_X6_digest 171 [some (.ref x), some (.long l1), none, some (.int l3), some (.int l4)] [] h =
    ((zgR r h x 6 7).bind fun v1 =>
    (zaI r h v1 l3).bind fun v2 =>
    if l4 < v2 then
      (zgR r h x 6 8).bind fun v3 =>
      (zaI r h v3 (((40 : Int32) * l3) + l4)).bind fun v4 =>
      zev r i_X6_digest 171 [some (.ref x), some (.long (((31 : Int64) * l1) + v4.toInt64)), none, some (.int l3), some (.int (l4 + (1 : Int32)))] [] h
    else
      zev r i_X6_digest 148 [some (.ref x), some (.long l1), none, some (.int (l3 + (1 : Int32))), none] [] h) := zblk r [6, 33, 76, 115, 148, 171, 216, 238] 177 _ _ _ _ _
set_option maxRecDepth 100000 in
theorem E_X6_digest_216 (r : zE) (h : zH) (x : Nat) (l1 : Int64) (l3 : Int32) : zev r i_X6_digest 216 [some (.ref x), some (.long l1), none, some (.int l3), none] [] h =
    (if l3 < (4 : Int32) then
      (zgR r h x 6 9).bind fun v1 =>
      (zaI r h v1 l3).bind fun v2 =>
      zev r i_X6_digest 238 [some (.ref x), some (.long (((31 : Int64) * l1) + v2.toInt64)), none, some (.int l3), some (.int (0 : Int32))] [] h
    else
      some (some (.long l1), h)) := zblk r [6, 33, 76, 115, 148, 171, 216, 238] 177 _ _ _ _ _
set_option maxRecDepth 100000 in
theorem E_X6_digest_238 (r : zE) (h : zH) (x : Nat) (l1 : Int64) (l3 : Int32) (l4 : Int32) : zev r i_X6_digest 238 [some (.ref x), some (.long l1), none, some (.int l3), some (.int l4)] [] h =
    ((zgR r h x 6 9).bind fun v1 =>
    (zaI r h v1 l3).bind fun v2 =>
    if l4 < v2 then
      (zgR r h x 6 10).bind fun v3 =>
      (zaI r h v3 (((60 : Int32) * l3) + l4)).bind fun v4 =>
      zev r i_X6_digest 238 [some (.ref x), some (.long (((31 : Int64) * l1) + v4.toInt64)), none, some (.int l3), some (.int (l4 + (1 : Int32)))] [] h
    else
      zev r i_X6_digest 216 [some (.ref x), some (.long l1), none, some (.int (l3 + (1 : Int32))), none] [] h) := zblk r [6, 33, 76, 115, 148, 171, 216, 238] 177 _ _ _ _ _
