/-! stretches of code as equations (printed by wip/p48/gen20.py) -/
set_option maxRecDepth 100000 in
theorem E_X0_init_0 (r : zE) (h : zH) (x : Nat) (a1 : Nat) : zev r i_X0_init 0 [some (.ref x), some (.ref a1)] [] h =
    ((zpF r (h ++ [.inl (6, fun _ => 0)] : zH) x 0 1 (.ref (r.1 + h.length))).bind fun h1 =>
    (zpF r (h1 ++ [.inl (7, fun _ => 0)] : zH) x 0 2 (.ref (r.1 + h1.length))).bind fun h2 =>
    (zpF r (h2 ++ [.inl (6, fun _ => 0)] : zH) x 0 3 (.ref (r.1 + h2.length))).bind fun h3 =>
    (zpF r (h3 ++ [.inl (6, fun _ => 0)] : zH) x 0 4 (.ref (r.1 + h3.length))).bind fun h4 =>
    if zob r h4 x 0 = true then
    (zcV (zev r i_X0_begin 0 [some (.ref x), some (.ref a1)] [] h4) fun h5 =>
    some (none, h5))
    else none) := zblk r [] 25 _ _ _ _ _
set_option maxRecDepth 100000 in
theorem E_X0_begin_0 (r : zE) (h : zH) (x : Nat) (a1 : Nat) : zev r i_X0_begin 0 [some (.ref x), some (.ref a1)] [] h =
    ((zpF r h x 0 0 (.ref a1)).bind fun h1 =>
    (zgR r h1 a1 1 4).bind fun v1 =>
    (zgR r h1 x 0 3).bind fun v2 =>
    (zcp r h1 v1 (0 : Int32) v2 (0 : Int32) (6 : Int32)).bind fun h2 =>
    (zgR r h2 x 0 4).bind fun v3 =>
    zcV (zev r i_J7_fill_53178 0 [some (.ref v3), some (.int (0 : Int32)), none, none] [] h2) fun h3 =>
    if zob r h3 x 0 = true then
    (zcV (zev r i_X0_hangByFirstPlan 0 [some (.ref x), none] [] h3) fun h4 =>
    some (none, h4))
    else none) := zblk r [] 21 _ _ _ _ _
set_option maxRecDepth 100000 in
theorem E_X0_copyFrom_0 (r : zE) (h : zH) (x : Nat) (a1 : Nat) : zev r i_X0_copyFrom 0 [some (.ref x), some (.ref a1)] [] h =
    ((zgR r h a1 0 0).bind fun v1 =>
    (zpF r h x 0 0 (.ref v1)).bind fun h1 =>
    (zgR r h1 a1 0 1).bind fun v2 =>
    (zgR r h1 x 0 1).bind fun v3 =>
    (zcp r h1 v2 (0 : Int32) v3 (0 : Int32) (6 : Int32)).bind fun h2 =>
    (zgR r h2 a1 0 2).bind fun v4 =>
    (zgR r h2 x 0 2).bind fun v5 =>
    (zcp r h2 v4 (0 : Int32) v5 (0 : Int32) (7 : Int32)).bind fun h3 =>
    (zgR r h3 a1 0 3).bind fun v6 =>
    (zgR r h3 x 0 3).bind fun v7 =>
    (zcp r h3 v6 (0 : Int32) v7 (0 : Int32) (6 : Int32)).bind fun h4 =>
    (zgR r h4 a1 0 4).bind fun v8 =>
    (zgR r h4 x 0 4).bind fun v9 =>
    (zcp r h4 v8 (0 : Int32) v9 (0 : Int32) (6 : Int32)).bind fun h5 =>
    some (none, h5)) := zblk r [] 40 _ _ _ _ _
set_option maxRecDepth 100000 in
theorem E_X0_manDetail_0 (r : zE) (h : zH) (x : Nat) (i1 : Int32) (i2 : Int32) : zev r i_X0_manDetail 0 [some (.ref x), some (.int i1), some (.int i2)] [] h =
    (if i2 = (0 : Int32) then
      (zgR r h x 0 0).bind fun v1 =>
      (zgR r h v1 1 3).bind fun v2 =>
      (zaI r h v2 i1).bind fun v3 =>
      some (some (.int v3), h)
    else if i2 = (1 : Int32) then
      (zgR r h x 0 3).bind fun v4 =>
      (zaI r h v4 i1).bind fun v5 =>
      some (some (.int v5), h)
    else if i2 = (2 : Int32) then
      (zgR r h x 0 0).bind fun v6 =>
      (zgR r h v6 1 5).bind fun v7 =>
      (zaI r h v7 i1).bind fun v8 =>
      some (some (.int v8), h)
    else if i2 = (3 : Int32) then
      (zgR r h x 0 0).bind fun v9 =>
      (zgR r h v9 1 6).bind fun v10 =>
      (zaI r h v10 i1).bind fun v11 =>
      some (some (.int v11), h)
    else if i2 = (4 : Int32) then
      (zgR r h x 0 1).bind fun v12 =>
      (zaI r h v12 i1).bind fun v13 =>
      some (some (.int v13), h)
    else (zgR r h x 0 4).bind fun v14 =>
      (zaI r h v14 i1).bind fun v15 =>
      some (some (.int v15), h)) := zblk r [] 38 _ _ _ _ _
set_option maxRecDepth 100000 in
theorem E_X0_hookDetail_0 (r : zE) (h : zH) (x : Nat) (i1 : Int32) (i2 : Int32) : zev r i_X0_hookDetail 0 [some (.ref x), some (.int i1), some (.int i2)] [] h =
    (if i2 = 0 then
      (zgR r h x 0 0).bind fun v1 =>
      (zgR r h v1 1 2).bind fun v2 =>
      (zaI r h v2 i1).bind fun v3 =>
      some (some (.int v3), h)
    else
      (zgR r h x 0 2).bind fun v4 =>
      (zaI r h v4 i1).bind fun v5 =>
      some (some (.int v5), h)) := zblk r [] 16 _ _ _ _ _
set_option maxRecDepth 100000 in
theorem E_X0_tiredTogether_0 (r : zE) (h : zH) (x : Nat) : zev r i_X0_tiredTogether 0 [some (.ref x), none, none] [] h =
    (zev r i_X0_tiredTogether 4 [some (.ref x), some (.int (0 : Int32)), some (.int (0 : Int32))] [] h) := zblk r [4] 23 _ _ _ _ _
set_option maxRecDepth 100000 in
theorem E_X0_tiredTogether_4 (r : zE) (h : zH) (x : Nat) (l1 : Int32) (l2 : Int32) : zev r i_X0_tiredTogether 4 [some (.ref x), some (.int l1), some (.int l2)] [] h =
    ((zgR r h x 0 0).bind fun v1 =>
    (zgI r h v1 1 1).bind fun v2 =>
    if l2 < v2 then
      (zgR r h x 0 4).bind fun v3 =>
      (zaI r h v3 l2).bind fun v4 =>
      zev r i_X0_tiredTogether 4 [some (.ref x), some (.int (l1 + v4)), some (.int (l2 + (1 : Int32)))] [] h
    else
      some (some (.int l1), h)) := zblk r [4] 23 _ _ _ _ _
set_option maxRecDepth 100000 in
theorem E_X0_writeTo_0 (r : zE) (h : zH) (x : Nat) (a1 : Nat) (i2 : Int32) : zev r i_X0_writeTo 0 [some (.ref x), some (.ref a1), some (.int i2)] [] h =
    (if i2 < 0 then
      some (none, h)
    else
      (zaN r h a1).bind fun n1 =>
      if ((Int32.ofNat n1) - (18 : Int32)) < i2 then
        some (none, h)
      else
        (zgR r h x 0 1).bind fun v2 =>
        (zcp r h v2 (0 : Int32) a1 i2 (6 : Int32)).bind fun h1 =>
        (zgR r h1 x 0 3).bind fun v3 =>
        (zcp r h1 v3 (0 : Int32) a1 (i2 + (6 : Int32)) (6 : Int32)).bind fun h2 =>
        (zgR r h2 x 0 4).bind fun v4 =>
        (zcp r h2 v4 (0 : Int32) a1 (i2 + (12 : Int32)) (6 : Int32)).bind fun h3 =>
        some (none, h3)) := zblk r [] 38 _ _ _ _ _
set_option maxRecDepth 100000 in
theorem E_X0_readFrom_0 (r : zE) (h : zH) (x : Nat) (a1 : Nat) (i2 : Int32) : zev r i_X0_readFrom 0 [some (.ref x), some (.ref a1), some (.int i2), none] [] h =
    (if i2 < 0 then
      some (none, h)
    else
      (zaN r h a1).bind fun n1 =>
      if ((Int32.ofNat n1) - (18 : Int32)) < i2 then
        some (none, h)
      else
        if zob r h x 0 = true then
        (zcV (zev r i_X0_takeAllDown 0 [some (.ref x)] [] h) fun h1 =>
        zev r i_X0_readFrom 20 [some (.ref x), some (.ref a1), some (.int i2), some (.int (0 : Int32))] [] h1)
        else none) := zblk r [20] 50 _ _ _ _ _
set_option maxRecDepth 100000 in
theorem E_X0_readFrom_20 (r : zE) (h : zH) (x : Nat) (l1 : Nat) (l2 : Int32) (l3 : Int32) : zev r i_X0_readFrom 20 [some (.ref x), some (.ref l1), some (.int l2), some (.int l3)] [] h =
    ((zgR r h x 0 0).bind fun v1 =>
    (zgI r h v1 1 1).bind fun v2 =>
    if l3 < v2 then
      (zaI r h l1 (l2 + l3)).bind fun v3 =>
      if zob r h x 0 = true then
      (zcV (zev r i_X0_move 0 [some (.ref x), some (.int l3), some (.int v3)] [] h) fun h1 =>
      zev r i_X0_readFrom 20 [some (.ref x), some (.ref l1), some (.int l2), some (.int (l3 + (1 : Int32)))] [] h1)
      else none
    else
      (zgR r h x 0 3).bind fun v4 =>
      (zcp r h l1 (l2 + (6 : Int32)) v4 (0 : Int32) (6 : Int32)).bind fun h2 =>
      (zgR r h2 x 0 4).bind fun v5 =>
      (zcp r h2 l1 (l2 + (12 : Int32)) v5 (0 : Int32) (6 : Int32)).bind fun h3 =>
      some (none, h3)) := zblk r [20] 50 _ _ _ _ _
set_option maxRecDepth 100000 in
theorem E_X0_isFree_0 (r : zE) (h : zH) (x : Nat) (i1 : Int32) : zev r i_X0_isFree 0 [some (.ref x), some (.int i1)] [] h =
    ((zgR r h x 0 0).bind fun v1 =>
    if zob r h v1 1 = true then
    (zcI (zev r i_X1_hasHook 0 [some (.ref v1), some (.int i1)] [] h) fun v2 h1 =>
    if v2 = 0 then
      some (some (.int (0 : Int32)), h1)
    else
      (zgR r h1 x 0 2).bind fun v3 =>
      (zaI r h1 v3 i1).bind fun v4 =>
      if v4 = (-9 : Int32) then
        some (some (.int (1 : Int32)), h1)
      else
        some (some (.int (0 : Int32)), h1))
    else none) := zblk r [] 18 _ _ _ _ _
set_option maxRecDepth 100000 in
theorem E_X0_hangs_0 (r : zE) (h : zH) (x : Nat) (i1 : Int32) : zev r i_X0_hangs 0 [some (.ref x), some (.int i1)] [] h =
    ((zgR r h x 0 1).bind fun v1 =>
    (zaI r h v1 i1).bind fun v2 =>
    if v2 = (-9 : Int32) then
      some (some (.int (0 : Int32)), h)
    else
      some (some (.int (1 : Int32)), h)) := zblk r [] 13 _ _ _ _ _
set_option maxRecDepth 100000 in
theorem E_X0_move_0 (r : zE) (h : zH) (x : Nat) (i1 : Int32) (i2 : Int32) : zev r i_X0_move 0 [some (.ref x), some (.int i1), some (.int i2)] [] h =
    ((zgR r h x 0 0).bind fun v1 =>
    (zgR r h x 0 1).bind fun v2 =>
    (zaI r h v2 i1).bind fun v3 =>
    if zob r h v1 1 = true then
    (zcI (zev r i_X1_hasHook 0 [some (.ref v1), some (.int v3)] [] h) fun v4 h1 =>
    if v4 = 0 then
      zev r i_X0_move 29 [some (.ref x), some (.int i1), some (.int i2)] [] h1
    else
      (zgR r h1 x 0 2).bind fun v5 =>
      (zgR r h1 x 0 1).bind fun v6 =>
      (zaI r h1 v6 i1).bind fun v7 =>
      (zsI r h1 v5 v7 (-9 : Int32)).bind fun h2 =>
      zev r i_X0_move 29 [some (.ref x), some (.int i1), some (.int i2)] [] h2)
    else none) := zblk r [29] 35 _ _ _ _ _
set_option maxRecDepth 100000 in
theorem E_X0_move_29 (r : zE) (h : zH) (x : Nat) (l1 : Int32) (l2 : Int32) : zev r i_X0_move 29 [some (.ref x), some (.int l1), some (.int l2)] [] h =
    ((zgR r h x 0 1).bind fun v1 =>
    (zsI r h v1 l1 l2).bind fun h1 =>
    (zgR r h1 x 0 0).bind fun v2 =>
    if zob r h1 v2 1 = true then
    (zcI (zev r i_X1_hasHook 0 [some (.ref v2), some (.int l2)] [] h1) fun v3 h2 =>
    if v3 = 0 then
      some (none, h2)
    else
      (zgR r h2 x 0 2).bind fun v4 =>
      (zsI r h2 v4 l2 l1).bind fun h3 =>
      some (none, h3))
    else none) := zblk r [29] 35 _ _ _ _ _
set_option maxRecDepth 100000 in
theorem E_X0_swap_0 (r : zE) (h : zH) (x : Nat) (i1 : Int32) (i2 : Int32) : zev r i_X0_swap 0 [some (.ref x), some (.int i1), some (.int i2), none, none] [] h =
    ((zgR r h x 0 1).bind fun v1 =>
    (zaI r h v1 i1).bind fun v2 =>
    (zgR r h x 0 1).bind fun v3 =>
    (zaI r h v3 i2).bind fun v4 =>
    if zob r h x 0 = true then
    (zcV (zev r i_X0_move 0 [some (.ref x), some (.int i1), some (.int (-9 : Int32))] [] h) fun h1 =>
    if zob r h1 x 0 = true then
    (zcV (zev r i_X0_move 0 [some (.ref x), some (.int i2), some (.int v2)] [] h1) fun h2 =>
    if zob r h2 x 0 = true then
    (zcV (zev r i_X0_move 0 [some (.ref x), some (.int i1), some (.int v4)] [] h2) fun h3 =>
    some (none, h3))
    else none)
    else none)
    else none) := zblk r [] 26 _ _ _ _ _
set_option maxRecDepth 100000 in
theorem E_X0_takeAllDown_0 (r : zE) (h : zH) (x : Nat) : zev r i_X0_takeAllDown 0 [some (.ref x)] [] h =
    ((zgR r h x 0 1).bind fun v1 =>
    zcV (zev r i_J7_fill_53178 0 [some (.ref v1), some (.int (-9 : Int32)), none, none] [] h) fun h1 =>
    (zgR r h1 x 0 2).bind fun v2 =>
    zcV (zev r i_J7_fill_53178 0 [some (.ref v2), some (.int (-9 : Int32)), none, none] [] h1) fun h2 =>
    some (none, h2)) := zblk r [] 12 _ _ _ _ _
set_option maxRecDepth 100000 in
theorem E_X0_hangBy_0 (r : zE) (h : zH) (x : Nat) (a1 : Nat) : zev r i_X0_hangBy 0 [some (.ref x), some (.ref a1), none, none] [] h =
    (if zob r h x 0 = true then
    (zcV (zev r i_X0_takeAllDown 0 [some (.ref x)] [] h) fun h1 =>
    zev r i_X0_hangBy 6 [some (.ref x), some (.ref a1), some (.int (0 : Int32)), none] [] h1)
    else none) := zblk r [6] 30 _ _ _ _ _
set_option maxRecDepth 100000 in
theorem E_X0_hangBy_6 (r : zE) (h : zH) (x : Nat) (l1 : Nat) (l2 : Int32) : zev r i_X0_hangBy 6 [some (.ref x), some (.ref l1), some (.int l2), none] [] h =
    ((zgR r h x 0 0).bind fun v1 =>
    (zgI r h v1 1 1).bind fun v2 =>
    if l2 < v2 then
      if zob r h l1 4 = true then
      (zcI (zev r i_X4_get 0 [some (.ref l1), some (.int l2)] [] h) fun v3 h1 =>
      if zob r h1 x 0 = true then
      (zcI (zev r i_X0_isFree 0 [some (.ref x), some (.int v3)] [] h1) fun v4 h2 =>
      if v4 = 0 then
        some (some (.int (0 : Int32)), h2)
      else
        if zob r h2 x 0 = true then
        (zcV (zev r i_X0_move 0 [some (.ref x), some (.int l2), some (.int v3)] [] h2) fun h3 =>
        zev r i_X0_hangBy 6 [some (.ref x), some (.ref l1), some (.int (l2 + (1 : Int32))), none] [] h3)
        else none)
      else none)
      else none
    else
      some (some (.int (1 : Int32)), h)) := zblk r [6] 30 _ _ _ _ _
set_option maxRecDepth 100000 in
theorem E_X0_hangByFirstPlan_0 (r : zE) (h : zH) (x : Nat) : zev r i_X0_hangByFirstPlan 0 [some (.ref x), none] [] h =
    (if zob r h x 0 = true then
    (zcV (zev r i_X0_takeAllDown 0 [some (.ref x)] [] h) fun h1 =>
    zev r i_X0_hangByFirstPlan 6 [some (.ref x), some (.int (0 : Int32))] [] h1)
    else none) := zblk r [6] 19 _ _ _ _ _
set_option maxRecDepth 100000 in
theorem E_X0_hangByFirstPlan_6 (r : zE) (h : zH) (x : Nat) (l1 : Int32) : zev r i_X0_hangByFirstPlan 6 [some (.ref x), some (.int l1)] [] h =
    ((zgR r h x 0 0).bind fun v1 =>
    (zgI r h v1 1 1).bind fun v2 =>
    if l1 < v2 then
      if zob r h x 0 = true then
      (zcV (zev r i_X0_move 0 [some (.ref x), some (.int l1), some (.int l1)] [] h) fun h1 =>
      zev r i_X0_hangByFirstPlan 6 [some (.ref x), some (.int (l1 + (1 : Int32)))] [] h1)
      else none
    else
      some (none, h)) := zblk r [6] 19 _ _ _ _ _
set_option maxRecDepth 100000 in
theorem E_X0_hangByNextPlan_0 (r : zE) (h : zH) (x : Nat) : zev r i_X0_hangByNextPlan 0 [some (.ref x), none, none] [] h =
    ((zgR r h x 0 0).bind fun v1 =>
    (zgI r h v1 1 1).bind fun v2 =>
    zev r i_X0_hangByNextPlan 10 [some (.ref x), some (.int (v2 - (1 : Int32))), none] [] h) := zblk r [10, 32] 33 _ _ _ _ _
set_option maxRecDepth 100000 in
theorem E_X0_hangByNextPlan_10 (r : zE) (h : zH) (x : Nat) (l1 : Int32) : zev r i_X0_hangByNextPlan 10 [some (.ref x), some (.int l1), none] [] h =
    (if l1 < 0 then
      zev r i_X0_hangByNextPlan 32 [some (.ref x), some (.int l1), some (.int (l1 + (1 : Int32)))] [] h
    else
      if zob r h x 0 = true then
      (zcI (zev r i_X0_moveOn 0 [some (.ref x), some (.int l1), none] [] h) fun v1 h1 =>
      if v1 = 0 then
        zev r i_X0_hangByNextPlan 10 [some (.ref x), some (.int (l1 + (-1 : Int32))), none] [] h1
      else
        zev r i_X0_hangByNextPlan 32 [some (.ref x), some (.int l1), some (.int (l1 + (1 : Int32)))] [] h1)
      else none) := zblk r [10, 32] 33 _ _ _ _ _
set_option maxRecDepth 100000 in
theorem E_X0_hangByNextPlan_32 (r : zE) (h : zH) (x : Nat) (l1 : Int32) (l2 : Int32) : zev r i_X0_hangByNextPlan 32 [some (.ref x), some (.int l1), some (.int l2)] [] h =
    ((zgR r h x 0 0).bind fun v1 =>
    (zgI r h v1 1 1).bind fun v2 =>
    if l2 < v2 then
      if zob r h x 0 = true then
      (zcI (zev r i_X0_moveOn 0 [some (.ref x), some (.int l2), none] [] h) fun v3 h1 =>
      zev r i_X0_hangByNextPlan 32 [some (.ref x), some (.int l1), some (.int (l2 + (1 : Int32)))] [] h1)
      else none
    else
      some (none, h)) := zblk r [10, 32] 33 _ _ _ _ _
set_option maxRecDepth 100000 in
theorem E_X0_moveOn_0 (r : zE) (h : zH) (x : Nat) (i1 : Int32) : zev r i_X0_moveOn 0 [some (.ref x), some (.int i1), none] [] h =
    ((zgR r h x 0 1).bind fun v1 =>
    (zaI r h v1 i1).bind fun v2 =>
    zev r i_X0_moveOn 13 [some (.ref x), some (.int i1), some (.int ((if (-1 : Int32) < v2 then v2 else (-1 : Int32)) + (1 : Int32)))] [] h) := zblk r [13] 35 _ _ _ _ _
set_option maxRecDepth 100000 in
theorem E_X0_moveOn_13 (r : zE) (h : zH) (x : Nat) (l1 : Int32) (l2 : Int32) : zev r i_X0_moveOn 13 [some (.ref x), some (.int l1), some (.int l2)] [] h =
    ((zgR r h x 0 0).bind fun v1 =>
    (zgI r h v1 1 0).bind fun v2 =>
    if l2 < v2 then
      if zob r h x 0 = true then
      (zcI (zev r i_X0_isFree 0 [some (.ref x), some (.int l2)] [] h) fun v3 h1 =>
      if v3 = 0 then
        zev r i_X0_moveOn 13 [some (.ref x), some (.int l1), some (.int (l2 + (1 : Int32)))] [] h1
      else
        if zob r h1 x 0 = true then
        (zcV (zev r i_X0_move 0 [some (.ref x), some (.int l1), some (.int l2)] [] h1) fun h2 =>
        some (some (.int (1 : Int32)), h2))
        else none)
      else none
    else
      if zob r h x 0 = true then
      (zcV (zev r i_X0_move 0 [some (.ref x), some (.int l1), some (.int (-9 : Int32))] [] h) fun h3 =>
      some (some (.int (0 : Int32)), h3))
      else none) := zblk r [13] 35 _ _ _ _ _
set_option maxRecDepth 100000 in
theorem E_X0_messmatePairs_0 (r : zE) (h : zH) (x : Nat) : zev r i_X0_messmatePairs 0 [some (.ref x), none, none, none, none] [] h =
    (zev r i_X0_messmatePairs 4 [some (.ref x), some (.int (0 : Int32)), some (.int (0 : Int32)), none, none] [] h) := zblk r [4] 52 _ _ _ _ _
set_option maxRecDepth 100000 in
theorem E_X0_messmatePairs_4 (r : zE) (h : zH) (x : Nat) (l1 : Int32) (l2 : Int32) : zev r i_X0_messmatePairs 4 [some (.ref x), some (.int l1), some (.int l2), none, none] [] h =
    ((zgR r h x 0 0).bind fun v1 =>
    (zgI r h v1 1 0).bind fun v2 =>
    if (l2 + (1 : Int32)) < v2 then
      (zgR r h x 0 2).bind fun v3 =>
      (zaI r h v3 l2).bind fun v4 =>
      (zgR r h x 0 2).bind fun v5 =>
      (zaI r h v5 (l2 + (1 : Int32))).bind fun v6 =>
      (zgR r h x 0 0).bind fun v7 =>
      if zob r h v7 1 = true then
      (zcI (zev r i_X1_hasMan 0 [some (.ref v7), some (.int v4)] [] h) fun v8 h1 =>
      if v8 = 0 then
        zev r i_X0_messmatePairs 4 [some (.ref x), some (.int l1), some (.int (l2 + (1 : Int32))), none, none] [] h1
      else
        (zgR r h1 x 0 0).bind fun v9 =>
        if zob r h1 v9 1 = true then
        (zcI (zev r i_X1_hasMan 0 [some (.ref v9), some (.int v6)] [] h1) fun v10 h2 =>
        if v10 = 0 then
          zev r i_X0_messmatePairs 4 [some (.ref x), some (.int l1), some (.int (l2 + (1 : Int32))), none, none] [] h2
        else
          (zgR r h2 x 0 0).bind fun v11 =>
          (zgR r h2 v11 1 6).bind fun v12 =>
          (zaI r h2 v12 v4).bind fun v13 =>
          (zgR r h2 x 0 0).bind fun v14 =>
          (zgR r h2 v14 1 6).bind fun v15 =>
          (zaI r h2 v15 v6).bind fun v16 =>
          if v13 = v16 then
            zev r i_X0_messmatePairs 4 [some (.ref x), some (.int (l1 + (1 : Int32))), some (.int (l2 + (1 : Int32))), none, none] [] h2
          else
            zev r i_X0_messmatePairs 4 [some (.ref x), some (.int l1), some (.int (l2 + (1 : Int32))), none, none] [] h2)
        else none)
      else none
    else
      some (some (.int l1), h)) := zblk r [4] 52 _ _ _ _ _
set_option maxRecDepth 100000 in
theorem E_X0_isIn_0 (r : zE) (h : zH) (x : Nat) (i1 : Int32) (i2 : Int32) : zev r i_X0_isIn 0 [some (.ref x), some (.int i1), some (.int i2)] [] h =
    ((zgR r h x 0 1).bind fun v1 =>
    (zaI r h v1 i1).bind fun v2 =>
    if v2 = (-9 : Int32) then
      some (some (.int (0 : Int32)), h)
    else
      if i2 = 0 then
        some (some (.int (1 : Int32)), h)
      else
        (zgR r h x 0 0).bind fun v3 =>
        (zgR r h v3 1 5).bind fun v4 =>
        (zaI r h v4 i1).bind fun v5 =>
        if v5 = (i2 - (1 : Int32)) then
          some (some (.int (0 : Int32)), h)
        else
          some (some (.int (1 : Int32)), h)) := zblk r [] 24 _ _ _ _ _
set_option maxRecDepth 100000 in
theorem E_X0_howManyIn_0 (r : zE) (h : zH) (x : Nat) (i1 : Int32) : zev r i_X0_howManyIn 0 [some (.ref x), some (.int i1), none, none] [] h =
    (zev r i_X0_howManyIn 4 [some (.ref x), some (.int i1), some (.int (0 : Int32)), some (.int (0 : Int32))] [] h) := zblk r [4] 22 _ _ _ _ _
set_option maxRecDepth 100000 in
theorem E_X0_howManyIn_4 (r : zE) (h : zH) (x : Nat) (l1 : Int32) (l2 : Int32) (l3 : Int32) : zev r i_X0_howManyIn 4 [some (.ref x), some (.int l1), some (.int l2), some (.int l3)] [] h =
    ((zgR r h x 0 0).bind fun v1 =>
    (zgI r h v1 1 1).bind fun v2 =>
    if l3 < v2 then
      if zob r h x 0 = true then
      (zcI (zev r i_X0_isIn 0 [some (.ref x), some (.int l3), some (.int l1)] [] h) fun v3 h1 =>
      if v3 = 0 then
        zev r i_X0_howManyIn 4 [some (.ref x), some (.int l1), some (.int l2), some (.int (l3 + (1 : Int32)))] [] h1
      else
        zev r i_X0_howManyIn 4 [some (.ref x), some (.int l1), some (.int (l2 + (1 : Int32))), some (.int (l3 + (1 : Int32)))] [] h1)
      else none
    else
      some (some (.int l2), h)) := zblk r [4] 22 _ _ _ _ _
set_option maxRecDepth 100000 in
theorem E_X0_bitOfWhoIsInAt_0 (r : zE) (h : zH) (x : Nat) (i1 : Int32) (i2 : Int32) : zev r i_X0_bitOfWhoIsInAt 0 [some (.ref x), some (.int i1), some (.int i2), none] [] h =
    ((zgR r h x 0 0).bind fun v1 =>
    if zob r h v1 1 = true then
    (zcI (zev r i_X1_hasHook 0 [some (.ref v1), some (.int i1)] [] h) fun v2 h1 =>
    if v2 = 0 then
      some (some (.int (0 : Int32)), h1)
    else
      (zgR r h1 x 0 2).bind fun v3 =>
      (zaI r h1 v3 i1).bind fun v4 =>
      (zgR r h1 x 0 0).bind fun v5 =>
      if zob r h1 v5 1 = true then
      (zcI (zev r i_X1_hasMan 0 [some (.ref v5), some (.int v4)] [] h1) fun v6 h2 =>
      if v6 = 0 then
        some (some (.int (0 : Int32)), h2)
      else
        if zob r h2 x 0 = true then
        (zcI (zev r i_X0_isIn 0 [some (.ref x), some (.int v4), some (.int i2)] [] h2) fun v7 h3 =>
        if v7 = 0 then
          some (some (.int (0 : Int32)), h3)
        else
          some (some (.int ((1 : Int32) <<< (v4 &&& 31))), h3))
        else none)
      else none)
    else none) := zblk r [] 31 _ _ _ _ _
set_option maxRecDepth 100000 in
theorem E_X0_neighbourBits_0 (r : zE) (h : zH) (x : Nat) (i1 : Int32) (i2 : Int32) : zev r i_X0_neighbourBits 0 [some (.ref x), some (.int i1), some (.int i2)] [] h =
    (if zob r h x 0 = true then
    (zcI (zev r i_X0_hangs 0 [some (.ref x), some (.int i1)] [] h) fun v1 h1 =>
    if v1 = 0 then
      some (some (.int (0 : Int32)), h1)
    else
      (zgR r h1 x 0 1).bind fun v2 =>
      (zaI r h1 v2 i1).bind fun v3 =>
      if zob r h1 x 0 = true then
      (zcI (zev r i_X0_bitOfWhoIsInAt 0 [some (.ref x), some (.int (v3 - (1 : Int32))), some (.int i2), none] [] h1) fun v4 h2 =>
      (zgR r h2 x 0 1).bind fun v5 =>
      (zaI r h2 v5 i1).bind fun v6 =>
      if zob r h2 x 0 = true then
      (zcI (zev r i_X0_bitOfWhoIsInAt 0 [some (.ref x), some (.int (v6 + (1 : Int32))), some (.int i2), none] [] h2) fun v7 h3 =>
      some (some (.int (v4 ||| v7)), h3))
      else none)
      else none)
    else none) := zblk r [] 29 _ _ _ _ _
set_option maxRecDepth 100000 in
theorem E_X0_wakings_0 (r : zE) (h : zH) (x : Nat) (i1 : Int32) (i2 : Int32) : zev r i_X0_wakings 0 [some (.ref x), some (.int i1), some (.int i2), none, none] [] h =
    (if zob r h x 0 = true then
    (zcI (zev r i_X0_isIn 0 [some (.ref x), some (.int i1), some (.int i2)] [] h) fun v1 h1 =>
    if v1 = 0 then
      some (some (.int (0 : Int32)), h1)
    else
      (zgR r h1 x 0 1).bind fun v2 =>
      (zaI r h1 v2 i1).bind fun v3 =>
      (zgR r h1 x 0 0).bind fun v4 =>
      if zob r h1 v4 1 = true then
      (zcI (zev r i_X1_placeWakes 0 [some (.ref v4), some (.int v3)] [] h1) fun v5 h2 =>
      if zob r h2 x 0 = true then
      (zcI (zev r i_X0_wakingsFrom 0 [some (.ref x), some (.int (v3 - (1 : Int32))), some (.int i1), some (.int i2), none, none] [] h2) fun v6 h3 =>
      if zob r h3 x 0 = true then
      (zcI (zev r i_X0_wakingsFrom 0 [some (.ref x), some (.int (v3 + (1 : Int32))), some (.int i1), some (.int i2), none, none] [] h3) fun v7 h4 =>
      (zgR r h4 x 0 0).bind fun v8 =>
      (zgR r h4 v8 1 3).bind fun v9 =>
      (zaI r h4 v9 i1).bind fun v10 =>
      if v10 = (5 : Int32) then
        some (some (.int ((2 : Int32) * (if (0 : Int32) < ((v5 + v6) + v7) then ((v5 + v6) + v7) else (0 : Int32)))), h4)
      else
        some (some (.int (if (0 : Int32) < ((v5 + v6) + v7) then ((v5 + v6) + v7) else (0 : Int32))), h4))
      else none)
      else none)
      else none)
    else none) := zblk r [] 53 _ _ _ _ _
set_option maxRecDepth 100000 in
theorem E_X0_wakingsFrom_0 (r : zE) (h : zH) (x : Nat) (i1 : Int32) (i2 : Int32) (i3 : Int32) : zev r i_X0_wakingsFrom 0 [some (.ref x), some (.int i1), some (.int i2), some (.int i3), none, none] [] h =
    ((zgR r h x 0 0).bind fun v1 =>
    if zob r h v1 1 = true then
    (zcI (zev r i_X1_hasHook 0 [some (.ref v1), some (.int i1)] [] h) fun v2 h1 =>
    if v2 = 0 then
      some (some (.int (0 : Int32)), h1)
    else
      (zgR r h1 x 0 2).bind fun v3 =>
      (zaI r h1 v3 i1).bind fun v4 =>
      (zgR r h1 x 0 0).bind fun v5 =>
      if zob r h1 v5 1 = true then
      (zcI (zev r i_X1_hasMan 0 [some (.ref v5), some (.int v4)] [] h1) fun v6 h2 =>
      if v6 = 0 then
        some (some (.int (0 : Int32)), h2)
      else
        if zob r h2 x 0 = true then
        (zcI (zev r i_X0_isIn 0 [some (.ref x), some (.int v4), some (.int i3)] [] h2) fun v7 h3 =>
        if v7 = 0 then
          some (some (.int (0 : Int32)), h3)
        else
          (zgR r h3 x 0 0).bind fun v8 =>
          (zgR r h3 v8 1 3).bind fun v9 =>
          (zaI r h3 v9 v4).bind fun v10 =>
          if v10 = (2 : Int32) then
            (zgR r h3 x 0 0).bind fun v11 =>
            (zgR r h3 v11 1 3).bind fun v12 =>
            (zaI r h3 v12 i2).bind fun v13 =>
            if v13 = (3 : Int32) then
              zev r i_X0_wakingsFrom 77 [some (.ref x), some (.int i1), some (.int i2), some (.int i3), some (.int v4), none] [.int (0 : Int32)] h3
            else
              zev r i_X0_wakingsFrom 77 [some (.ref x), some (.int i1), some (.int i2), some (.int i3), some (.int v4), none] [.int (1 : Int32)] h3
          else
            zev r i_X0_wakingsFrom 77 [some (.ref x), some (.int i1), some (.int i2), some (.int i3), some (.int v4), none] [.int (0 : Int32)] h3)
        else none)
      else none)
    else none) := zblk r [77] 72 _ _ _ _ _
set_option maxRecDepth 100000 in
theorem E_X0_wakingsFrom_77 (r : zE) (h : zH) (x : Nat) (l1 : Int32) (l2 : Int32) (l3 : Int32) (l4 : Int32) (s0 : Int32) : zev r i_X0_wakingsFrom 77 [some (.ref x), some (.int l1), some (.int l2), some (.int l3), some (.int l4), none] [.int s0] h =
    ((zgR r h x 0 3).bind fun v1 =>
    (zaI r h v1 l2).bind fun v2 =>
    (zgR r h x 0 3).bind fun v3 =>
    (zaI r h v3 l4).bind fun v4 =>
    (zgR r h x 0 0).bind fun v5 =>
    if zob r h v5 1 = true then
    (zcI (zev r i_X1_bulk 0 [some (.ref v5), some (.int l2)] [] h) fun v6 h1 =>
    (zgR r h1 x 0 0).bind fun v7 =>
    if zob r h1 v7 1 = true then
    (zcI (zev r i_X1_bulk 0 [some (.ref v7), some (.int l4)] [] h1) fun v8 h2 =>
    if s0 = 0 then
      some (some (.int ((((if 0 ≤ (v2 - v4) then (v2 - v4) else 0 - (v2 - v4)) + v6) + v8) + (0 : Int32))), h2)
    else
      some (some (.int ((((if 0 ≤ (v2 - v4) then (v2 - v4) else 0 - (v2 - v4)) + v6) + v8) + (2 : Int32))), h2))
    else none)
    else none) := zblk r [77] 72 _ _ _ _ _
set_option maxRecDepth 100000 in
theorem E_X0_allWakings_0 (r : zE) (h : zH) (x : Nat) (i1 : Int32) : zev r i_X0_allWakings 0 [some (.ref x), some (.int i1), none, none] [] h =
    (zev r i_X0_allWakings 4 [some (.ref x), some (.int i1), some (.int (0 : Int32)), some (.int (0 : Int32))] [] h) := zblk r [4] 23 _ _ _ _ _
set_option maxRecDepth 100000 in
theorem E_X0_allWakings_4 (r : zE) (h : zH) (x : Nat) (l1 : Int32) (l2 : Int32) (l3 : Int32) : zev r i_X0_allWakings 4 [some (.ref x), some (.int l1), some (.int l2), some (.int l3)] [] h =
    ((zgR r h x 0 0).bind fun v1 =>
    (zgI r h v1 1 1).bind fun v2 =>
    if l3 < v2 then
      if zob r h x 0 = true then
      (zcI (zev r i_X0_wakings 0 [some (.ref x), some (.int l3), some (.int l1), none, none] [] h) fun v3 h1 =>
      zev r i_X0_allWakings 4 [some (.ref x), some (.int l1), some (.int (l2 + v3)), some (.int (l3 + (1 : Int32)))] [] h1)
      else none
    else
      some (some (.int l2), h)) := zblk r [4] 23 _ _ _ _ _
set_option maxRecDepth 100000 in
theorem E_X0_mostWakings_0 (r : zE) (h : zH) (x : Nat) (i1 : Int32) : zev r i_X0_mostWakings 0 [some (.ref x), some (.int i1), none, none] [] h =
    (zev r i_X0_mostWakings 4 [some (.ref x), some (.int i1), some (.int (0 : Int32)), some (.int (0 : Int32))] [] h) := zblk r [4] 23 _ _ _ _ _
set_option maxRecDepth 100000 in
theorem E_X0_mostWakings_4 (r : zE) (h : zH) (x : Nat) (l1 : Int32) (l2 : Int32) (l3 : Int32) : zev r i_X0_mostWakings 4 [some (.ref x), some (.int l1), some (.int l2), some (.int l3)] [] h =
    ((zgR r h x 0 0).bind fun v1 =>
    (zgI r h v1 1 1).bind fun v2 =>
    if l3 < v2 then
      if zob r h x 0 = true then
      (zcI (zev r i_X0_wakings 0 [some (.ref x), some (.int l3), some (.int l1), none, none] [] h) fun v3 h1 =>
      zev r i_X0_mostWakings 4 [some (.ref x), some (.int l1), some (.int (if l2 < v3 then v3 else l2)), some (.int (l3 + (1 : Int32)))] [] h1)
      else none
    else
      some (some (.int l2), h)) := zblk r [4] 23 _ _ _ _ _
set_option maxRecDepth 100000 in
theorem E_X0_tire_0 (r : zE) (h : zH) (x : Nat) (i1 : Int32) : zev r i_X0_tire 0 [some (.ref x), some (.int i1), none, none, none] [] h =
    (zev r i_X0_tire 4 [some (.ref x), some (.int i1), some (.int (0 : Int32)), some (.int (0 : Int32)), none] [] h) := zblk r [4] 42 _ _ _ _ _
set_option maxRecDepth 100000 in
theorem E_X0_tire_4 (r : zE) (h : zH) (x : Nat) (l1 : Int32) (l2 : Int32) (l3 : Int32) : zev r i_X0_tire 4 [some (.ref x), some (.int l1), some (.int l2), some (.int l3), none] [] h =
    ((zgR r h x 0 0).bind fun v1 =>
    (zgI r h v1 1 1).bind fun v2 =>
    if l3 < v2 then
      (zgR r h x 0 4).bind fun v3 =>
      (zaI r h v3 l3).bind fun v4 =>
      (zgR r h x 0 4).bind fun v5 =>
      if zob r h x 0 = true then
      (zcI (zev r i_X0_wakings 0 [some (.ref x), some (.int l3), some (.int l1), none, none] [] h) fun v6 h1 =>
      (zsI r h1 v5 l3 (if (v4 + v6) < (99 : Int32) then (v4 + v6) else (99 : Int32))).bind fun h2 =>
      (zgR r h2 x 0 4).bind fun v7 =>
      (zaI r h2 v7 l3).bind fun v8 =>
      zev r i_X0_tire 4 [some (.ref x), some (.int l1), some (.int (l2 + (v8 - v4))), some (.int (l3 + (1 : Int32))), none] [] h2)
      else none
    else
      some (some (.int l2), h)) := zblk r [4] 42 _ _ _ _ _
set_option maxRecDepth 100000 in
theorem E_X0_inTheWayOf_0 (r : zE) (h : zH) (x : Nat) (i1 : Int32) (i2 : Int32) : zev r i_X0_inTheWayOf 0 [some (.ref x), some (.int i1), some (.int i2), none, none, none] [] h =
    (if zob r h x 0 = true then
    (zcI (zev r i_X0_neighbourBits 0 [some (.ref x), some (.int i1), some (.int i2)] [] h) fun v1 h1 =>
    zev r i_X0_inTheWayOf 13 [some (.ref x), some (.int i1), some (.int i2), some (.int v1), some (.int (0 : Int32)), some (.int (0 : Int32))] [] h1)
    else none) := zblk r [13] 36 _ _ _ _ _
set_option maxRecDepth 100000 in
theorem E_X0_inTheWayOf_13 (r : zE) (h : zH) (x : Nat) (l1 : Int32) (l2 : Int32) (l3 : Int32) (l4 : Int32) (l5 : Int32) : zev r i_X0_inTheWayOf 13 [some (.ref x), some (.int l1), some (.int l2), some (.int l3), some (.int l4), some (.int l5)] [] h =
    ((zgR r h x 0 0).bind fun v1 =>
    (zgI r h v1 1 1).bind fun v2 =>
    if l5 < v2 then
      if (l3 &&& ((1 : Int32) <<< (l5 &&& 31))) = 0 then
        zev r i_X0_inTheWayOf 13 [some (.ref x), some (.int l1), some (.int l2), some (.int l3), some (.int l4), some (.int (l5 + (1 : Int32)))] [] h
      else
        (zgR r h x 0 0).bind fun v3 =>
        if zob r h v3 1 = true then
        (zcI (zev r i_X1_bulk 0 [some (.ref v3), some (.int l5)] [] h) fun v4 h1 =>
        zev r i_X0_inTheWayOf 13 [some (.ref x), some (.int l1), some (.int l2), some (.int l3), some (.int (l4 + ((1 : Int32) + v4))), some (.int (l5 + (1 : Int32)))] [] h1)
        else none
    else
      some (some (.int l4), h)) := zblk r [13] 36 _ _ _ _ _
set_option maxRecDepth 100000 in
theorem E_X0_firstToGetUp_0 (r : zE) (h : zH) (x : Nat) (i1 : Int32) : zev r i_X0_firstToGetUp 0 [some (.ref x), some (.int i1), none] [] h =
    (zev r i_X0_firstToGetUp 2 [some (.ref x), some (.int i1), some (.int (0 : Int32))] [] h) := zblk r [2] 26 _ _ _ _ _
set_option maxRecDepth 100000 in
theorem E_X0_firstToGetUp_2 (r : zE) (h : zH) (x : Nat) (l1 : Int32) (l2 : Int32) : zev r i_X0_firstToGetUp 2 [some (.ref x), some (.int l1), some (.int l2)] [] h =
    ((zgR r h x 0 0).bind fun v1 =>
    (zgI r h v1 1 1).bind fun v2 =>
    if l2 < v2 then
      if zob r h x 0 = true then
      (zcI (zev r i_X0_isIn 0 [some (.ref x), some (.int l2), some (.int l1)] [] h) fun v3 h1 =>
      if v3 = 0 then
        zev r i_X0_firstToGetUp 2 [some (.ref x), some (.int l1), some (.int (l2 + (1 : Int32)))] [] h1
      else
        if zob r h1 x 0 = true then
        (zcI (zev r i_X0_hasBulkierNeighbour 0 [some (.ref x), some (.int l2), some (.int l1), none, none] [] h1) fun v4 h2 =>
        if v4 = 0 then
          some (some (.int l2), h2)
        else
          zev r i_X0_firstToGetUp 2 [some (.ref x), some (.int l1), some (.int (l2 + (1 : Int32)))] [] h2)
        else none)
      else none
    else
      some (some (.int (-9 : Int32)), h)) := zblk r [2] 26 _ _ _ _ _
set_option maxRecDepth 100000 in
theorem E_X0_hasBulkierNeighbour_0 (r : zE) (h : zH) (x : Nat) (i1 : Int32) (i2 : Int32) : zev r i_X0_hasBulkierNeighbour 0 [some (.ref x), some (.int i1), some (.int i2), none, none] [] h =
    (if zob r h x 0 = true then
    (zcI (zev r i_X0_neighbourBits 0 [some (.ref x), some (.int i1), some (.int i2)] [] h) fun v1 h1 =>
    zev r i_X0_hasBulkierNeighbour 10 [some (.ref x), some (.int i1), some (.int i2), some (.int v1), some (.int (0 : Int32))] [] h1)
    else none) := zblk r [10] 36 _ _ _ _ _
set_option maxRecDepth 100000 in
theorem E_X0_hasBulkierNeighbour_10 (r : zE) (h : zH) (x : Nat) (l1 : Int32) (l2 : Int32) (l3 : Int32) (l4 : Int32) : zev r i_X0_hasBulkierNeighbour 10 [some (.ref x), some (.int l1), some (.int l2), some (.int l3), some (.int l4)] [] h =
    ((zgR r h x 0 0).bind fun v1 =>
    (zgI r h v1 1 1).bind fun v2 =>
    if l4 < v2 then
      if (l3 &&& ((1 : Int32) <<< (l4 &&& 31))) = 0 then
        zev r i_X0_hasBulkierNeighbour 10 [some (.ref x), some (.int l1), some (.int l2), some (.int l3), some (.int (l4 + (1 : Int32)))] [] h
      else
        (zgR r h x 0 0).bind fun v3 =>
        if zob r h v3 1 = true then
        (zcI (zev r i_X1_bulk 0 [some (.ref v3), some (.int l4)] [] h) fun v4 h1 =>
        (zgR r h1 x 0 0).bind fun v5 =>
        if zob r h1 v5 1 = true then
        (zcI (zev r i_X1_bulk 0 [some (.ref v5), some (.int l1)] [] h1) fun v6 h2 =>
        if v6 < v4 then
          some (some (.int (1 : Int32)), h2)
        else
          zev r i_X0_hasBulkierNeighbour 10 [some (.ref x), some (.int l1), some (.int l2), some (.int l3), some (.int (l4 + (1 : Int32)))] [] h2)
        else none)
        else none
    else
      some (some (.int (0 : Int32)), h)) := zblk r [10] 36 _ _ _ _ _
set_option maxRecDepth 100000 in
theorem E_X1_init_0 (r : zE) (h : zH) (x : Nat) : zev r i_X1_init 0 [some (.ref x)] [] h =
    ((zpF r h x 1 0 (.int (0 : Int32))).bind fun h1 =>
    (zpF r h1 x 1 1 (.int (0 : Int32))).bind fun h2 =>
    (zpF r (h2 ++ [.inl (7, fun _ => 0)] : zH) x 1 2 (.ref (r.1 + h2.length))).bind fun h3 =>
    (zpF r (h3 ++ [.inl (6, fun _ => 0)] : zH) x 1 3 (.ref (r.1 + h3.length))).bind fun h4 =>
    (zpF r (h4 ++ [.inl (6, fun _ => 0)] : zH) x 1 4 (.ref (r.1 + h4.length))).bind fun h5 =>
    (zpF r (h5 ++ [.inl (6, fun _ => 0)] : zH) x 1 5 (.ref (r.1 + h5.length))).bind fun h6 =>
    (zpF r (h6 ++ [.inl (6, fun _ => 0)] : zH) x 1 6 (.ref (r.1 + h6.length))).bind fun h7 =>
    some (none, h7)) := zblk r [] 32 _ _ _ _ _
set_option maxRecDepth 100000 in
theorem E_X1_hasHook_0 (r : zE) (h : zH) (x : Nat) (i1 : Int32) : zev r i_X1_hasHook 0 [some (.ref x), some (.int i1)] [] h =
    (if i1 < 0 then
      some (some (.int (0 : Int32)), h)
    else
      (zgI r h x 1 0).bind fun v1 =>
      if i1 < v1 then
        some (some (.int (1 : Int32)), h)
      else
        some (some (.int (0 : Int32)), h)) := zblk r [] 13 _ _ _ _ _
set_option maxRecDepth 100000 in
theorem E_X1_hasMan_0 (r : zE) (h : zH) (x : Nat) (i1 : Int32) : zev r i_X1_hasMan 0 [some (.ref x), some (.int i1)] [] h =
    (if i1 < 0 then
      some (some (.int (0 : Int32)), h)
    else
      (zgI r h x 1 1).bind fun v1 =>
      if i1 < v1 then
        some (some (.int (1 : Int32)), h)
      else
        some (some (.int (0 : Int32)), h)) := zblk r [] 13 _ _ _ _ _
set_option maxRecDepth 100000 in
theorem E_X1_addHook_0 (r : zE) (h : zH) (x : Nat) (i1 : Int32) : zev r i_X1_addHook 0 [some (.ref x), some (.int i1)] [] h =
    ((zgI r h x 1 0).bind fun v1 =>
    if v1 < (7 : Int32) then
      (zgR r h x 1 2).bind fun v2 =>
      (zgI r h x 1 0).bind fun v3 =>
      (zsI r h v2 v3 i1).bind fun h1 =>
      (zgI r h1 x 1 0).bind fun v4 =>
      (zpF r h1 x 1 0 (.int (v4 + (1 : Int32)))).bind fun h2 =>
      some (none, h2)
    else
      some (none, h)) := zblk r [] 21 _ _ _ _ _
set_option maxRecDepth 100000 in
theorem E_X1_addMan_0 (r : zE) (h : zH) (x : Nat) (i1 : Int32) (i2 : Int32) (i3 : Int32) (i4 : Int32) : zev r i_X1_addMan 0 [some (.ref x), some (.int i1), some (.int i2), some (.int i3), some (.int i4)] [] h =
    ((zgI r h x 1 1).bind fun v1 =>
    if zob r h x 1 = true then
    (zcI (zev r i_X1_mostMen 0 [some (.ref x)] [] h) fun v2 h1 =>
    if v1 < v2 then
      (zgR r h1 x 1 3).bind fun v3 =>
      (zgI r h1 x 1 1).bind fun v4 =>
      (zsI r h1 v3 v4 i1).bind fun h2 =>
      (zgR r h2 x 1 4).bind fun v5 =>
      (zgI r h2 x 1 1).bind fun v6 =>
      (zsI r h2 v5 v6 i2).bind fun h3 =>
      (zgR r h3 x 1 5).bind fun v7 =>
      (zgI r h3 x 1 1).bind fun v8 =>
      (zsI r h3 v7 v8 i3).bind fun h4 =>
      (zgR r h4 x 1 6).bind fun v9 =>
      (zgI r h4 x 1 1).bind fun v10 =>
      (zsI r h4 v9 v10 i4).bind fun h5 =>
      (zgI r h5 x 1 1).bind fun v11 =>
      (zpF r h5 x 1 1 (.int (v11 + (1 : Int32)))).bind fun h6 =>
      some (none, h6)
    else
      some (none, h1))
    else none) := zblk r [] 40 _ _ _ _ _
set_option maxRecDepth 100000 in
theorem E_X1_mostMen_0 (r : zE) (h : zH) (x : Nat) : zev r i_X1_mostMen 0 [some (.ref x)] [] h =
    ((zgI r h x 1 0).bind fun v1 =>
    some (some (.int (if v1 < (6 : Int32) then v1 else (6 : Int32))), h)) := zblk r [] 8 _ _ _ _ _
set_option maxRecDepth 100000 in
theorem E_X1_planCount_0 (r : zE) (h : zH) (x : Nat) : zev r i_X1_planCount 0 [some (.ref x), none, none] [] h =
    (zev r i_X1_planCount 4 [some (.ref x), some (.int (1 : Int32)), some (.int (0 : Int32))] [] h) := zblk r [4] 22 _ _ _ _ _
set_option maxRecDepth 100000 in
theorem E_X1_planCount_4 (r : zE) (h : zH) (x : Nat) (l1 : Int32) (l2 : Int32) : zev r i_X1_planCount 4 [some (.ref x), some (.int l1), some (.int l2)] [] h =
    ((zgI r h x 1 1).bind fun v1 =>
    if l2 < v1 then
      (zgI r h x 1 0).bind fun v2 =>
      zev r i_X1_planCount 4 [some (.ref x), some (.int (l1 * (v2 - l2))), some (.int (l2 + (1 : Int32)))] [] h
    else
      some (some (.int l1), h)) := zblk r [4] 22 _ _ _ _ _
set_option maxRecDepth 100000 in
theorem E_X1_isOf_0 (r : zE) (h : zH) (x : Nat) (i1 : Int32) (i2 : Int32) : zev r i_X1_isOf 0 [some (.ref x), some (.int i1), some (.int i2)] [] h =
    ((zgR r h x 1 3).bind fun v1 =>
    (zaI r h v1 i1).bind fun v2 =>
    if v2 = i2 then
      some (some (.int (1 : Int32)), h)
    else
      if i2 = (1 : Int32) then
        (zgR r h x 1 3).bind fun v3 =>
        (zaI r h v3 i1).bind fun v4 =>
        if v4 = (4 : Int32) then
          some (some (.int (1 : Int32)), h)
        else
          some (some (.int (0 : Int32)), h)
      else
        some (some (.int (0 : Int32)), h)) := zblk r [] 22 _ _ _ _ _
set_option maxRecDepth 100000 in
theorem E_X1_bitsOf_0 (r : zE) (h : zH) (x : Nat) (i1 : Int32) : zev r i_X1_bitsOf 0 [some (.ref x), some (.int i1), none, none] [] h =
    (zev r i_X1_bitsOf 4 [some (.ref x), some (.int i1), some (.int (0 : Int32)), some (.int (0 : Int32))] [] h) := zblk r [4] 26 _ _ _ _ _
set_option maxRecDepth 100000 in
theorem E_X1_bitsOf_4 (r : zE) (h : zH) (x : Nat) (l1 : Int32) (l2 : Int32) (l3 : Int32) : zev r i_X1_bitsOf 4 [some (.ref x), some (.int l1), some (.int l2), some (.int l3)] [] h =
    ((zgI r h x 1 1).bind fun v1 =>
    if l3 < v1 then
      if zob r h x 1 = true then
      (zcI (zev r i_X1_isOf 0 [some (.ref x), some (.int l3), some (.int l1)] [] h) fun v2 h1 =>
      if v2 = 0 then
        zev r i_X1_bitsOf 4 [some (.ref x), some (.int l1), some (.int l2), some (.int (l3 + (1 : Int32)))] [] h1
      else
        zev r i_X1_bitsOf 4 [some (.ref x), some (.int l1), some (.int (l2 ||| ((1 : Int32) <<< (l3 &&& 31)))), some (.int (l3 + (1 : Int32)))] [] h1)
      else none
    else
      some (some (.int l2), h)) := zblk r [4] 26 _ _ _ _ _
set_option maxRecDepth 100000 in
theorem E_X1_bulk_0 (r : zE) (h : zH) (x : Nat) (i1 : Int32) : zev r i_X1_bulk 0 [some (.ref x), some (.int i1)] [] h =
    ((zgR r h x 1 3).bind fun v1 =>
    (zaI r h v1 i1).bind fun v2 =>
    (zaI r h (r.2.2 0) v2).bind fun v3 =>
    some (some (.int v3), h)) := zblk r [] 10 _ _ _ _ _
set_option maxRecDepth 100000 in
theorem E_X1_placeWakes_0 (r : zE) (h : zH) (x : Nat) (i1 : Int32) : zev r i_X1_placeWakes 0 [some (.ref x), some (.int i1)] [] h =
    ((zgR r h x 1 2).bind fun v1 =>
    (zaI r h v1 i1).bind fun v2 =>
    (zaI r h (r.2.2 3) v2).bind fun v3 =>
    some (some (.int v3), h)) := zblk r [] 10 _ _ _ _ _
set_option maxRecDepth 100000 in
theorem E_X2_init_0 (r : zE) (h : zH) (x : Nat) (i1 : Int32) : zev r i_X2_init 0 [some (.ref x), some (.int i1)] [] h =
    ((zpF r (h ++ [.inl (1098, fun _ => 0)] : zH) x 2 0 (.ref (r.1 + h.length))).bind fun h1 =>
    (zpF r h1 x 2 1 (.int i1)).bind fun h2 =>
    some (none, h2)) := zblk r [] 13 _ _ _ _ _
set_option maxRecDepth 100000 in
theorem E_X2_isMissing_0 (r : zE) (h : zH) (x : Nat) : zev r i_X2_isMissing 0 [some (.ref x)] [] h =
    ((zgI r h x 2 1).bind fun v1 =>
    if v1 = (-1 : Int32) then
      some (some (.int (1 : Int32)), h)
    else
      some (some (.int (0 : Int32)), h)) := zblk r [] 11 _ _ _ _ _
set_option maxRecDepth 100000 in
theorem E_X2_hasRoomFor_0 (r : zE) (h : zH) (x : Nat) (i1 : Int32) : zev r i_X2_hasRoomFor 0 [some (.ref x), some (.int i1)] [] h =
    ((zgI r h x 2 1).bind fun v1 =>
    if ((60 : Int32) - v1) < i1 then
      some (some (.int (0 : Int32)), h)
    else
      some (some (.int (1 : Int32)), h)) := zblk r [] 13 _ _ _ _ _
set_option maxRecDepth 100000 in
theorem E_X2_begin_0 (r : zE) (h : zH) (x : Nat) (a1 : Nat) : zev r i_X2_begin 0 [some (.ref x), some (.ref a1)] [] h =
    ((zpF r h x 2 1 (.int (0 : Int32))).bind fun h1 =>
    (zgR r h1 x 2 0).bind fun v1 =>
    if zob r h1 a1 0 = true then
    (zcV (zev r i_X0_writeTo 0 [some (.ref a1), some (.ref v1), some (.int (0 : Int32))] [] h1) fun h2 =>
    some (none, h2))
    else none) := zblk r [] 12 _ _ _ _ _
set_option maxRecDepth 100000 in
theorem E_X2_add_0 (r : zE) (h : zH) (x : Nat) (a1 : Nat) : zev r i_X2_add 0 [some (.ref x), some (.ref a1)] [] h =
    (if zob r h x 2 = true then
    (zcI (zev r i_X2_hasRoomFor 0 [some (.ref x), some (.int (1 : Int32))] [] h) fun v1 h1 =>
    if v1 = 0 then
      some (none, h1)
    else
      (zgI r h1 x 2 1).bind fun v2 =>
      (zpF r h1 x 2 1 (.int (v2 + (1 : Int32)))).bind fun h2 =>
      (zgR r h2 x 2 0).bind fun v3 =>
      (zgI r h2 x 2 1).bind fun v4 =>
      if zob r h2 a1 0 = true then
      (zcV (zev r i_X0_writeTo 0 [some (.ref a1), some (.ref v3), some (.int (v4 * (18 : Int32)))] [] h2) fun h3 =>
      some (none, h3))
      else none)
    else none) := zblk r [] 23 _ _ _ _ _
set_option maxRecDepth 100000 in
theorem E_X2_discard_0 (r : zE) (h : zH) (x : Nat) : zev r i_X2_discard 0 [some (.ref x)] [] h =
    ((zpF r h x 2 1 (.int (-1 : Int32))).bind fun h1 =>
    some (none, h1)) := zblk r [] 7 _ _ _ _ _
set_option maxRecDepth 100000 in
theorem E_X2_copyFrom_0 (r : zE) (h : zH) (x : Nat) (a1 : Nat) : zev r i_X2_copyFrom 0 [some (.ref x), some (.ref a1)] [] h =
    ((zgI r h a1 2 1).bind fun v1 =>
    (zpF r h x 2 1 (.int v1)).bind fun h1 =>
    (zgR r h1 a1 2 0).bind fun v2 =>
    (zgR r h1 x 2 0).bind fun v3 =>
    (zgR r h1 x 2 0).bind fun v4 =>
    (zaN r h1 v4).bind fun n5 =>
    (zcp r h1 v2 (0 : Int32) v3 (0 : Int32) (Int32.ofNat n5)).bind fun h2 =>
    some (none, h2)) := zblk r [] 18 _ _ _ _ _
set_option maxRecDepth 100000 in
theorem E_X2_goBackTo_0 (r : zE) (h : zH) (x : Nat) (i1 : Int32) (a2 : Nat) : zev r i_X2_goBackTo 0 [some (.ref x), some (.int i1), some (.ref a2)] [] h =
    (if i1 < 0 then
      some (none, h)
    else
      (zgI r h x 2 1).bind fun v1 =>
      if v1 < i1 then
        some (none, h)
      else
        (zpF r h x 2 1 (.int i1)).bind fun h1 =>
        (zgR r h1 x 2 0).bind fun v2 =>
        if zob r h1 a2 0 = true then
        (zcV (zev r i_X0_readFrom 0 [some (.ref a2), some (.ref v2), some (.int (i1 * (18 : Int32))), none] [] h1) fun h2 =>
        some (none, h2))
        else none) := zblk r [] 21 _ _ _ _ _
set_option maxRecDepth 100000 in
theorem E_X3_init_0 (r : zE) (h : zH) (x : Nat) (a1 : Nat) (a2 : Nat) : zev r i_X3_init 0 [some (.ref x), some (.ref a1), some (.ref a2)] [] h =
    ((zpF r h x 3 2 (.int (0 : Int32))).bind fun h1 =>
    (zpF r h1 x 3 0 (.ref a1)).bind fun h2 =>
    (zpF r h2 x 3 1 (.ref a2)).bind fun h3 =>
    some (none, h3)) := zblk r [] 15 _ _ _ _ _
set_option maxRecDepth 100000 in
theorem E_X3_read_0 (r : zE) (h : zH) (x : Nat) : zev r i_X3_read 0 [some (.ref x), none, none] [] h =
    (if zob r h x 3 = true then
    (zcV (zev r i_X3_skipBlanks 0 [some (.ref x)] [] h) fun h1 =>
    if zob r h1 x 3 = true then
    (zcI (zev r i_X3_readHooks 0 [some (.ref x), none] [] h1) fun v1 h2 =>
    if v1 = 0 then
      (zgI r h2 x 3 2).bind fun v2 =>
      some (some (.int v2), h2)
    else
      if zob r h2 x 3 = true then
      (zcV (zev r i_X3_skipBlanks 0 [some (.ref x)] [] h2) fun h3 =>
      (zgR r h3 x 3 1).bind fun v3 =>
      if zob r h3 v3 1 = true then
      (zcI (zev r i_X1_mostMen 0 [some (.ref v3)] [] h3) fun v4 h4 =>
      zev r i_X3_read 30 [some (.ref x), some (.int v4), some (.int (0 : Int32))] [] h4)
      else none)
      else none)
    else none)
    else none) := zblk r [30, 71] 53 _ _ _ _ _
set_option maxRecDepth 100000 in
theorem E_X3_read_30 (r : zE) (h : zH) (x : Nat) (l1 : Int32) (l2 : Int32) : zev r i_X3_read 30 [some (.ref x), some (.int l1), some (.int l2)] [] h =
    (if l2 < l1 then
      (zgI r h x 3 2).bind fun v1 =>
      (zgR r h x 3 0).bind fun v2 =>
      (zgI r h v2 4 1).bind fun v3 =>
      if v1 < v3 then
        if zob r h x 3 = true then
        (zcI (zev r i_X3_readMan 0 [some (.ref x), none, none, none, none] [] h) fun v4 h1 =>
        if v4 = 0 then
          (zgI r h1 x 3 2).bind fun v5 =>
          some (some (.int v5), h1)
        else
          if zob r h1 x 3 = true then
          (zcV (zev r i_X3_skipBlanks 0 [some (.ref x)] [] h1) fun h2 =>
          zev r i_X3_read 30 [some (.ref x), some (.int l1), some (.int (l2 + (1 : Int32)))] [] h2)
          else none)
        else none
      else
        zev r i_X3_read 71 [some (.ref x), some (.int l1), some (.int l2)] [] h
    else
      zev r i_X3_read 71 [some (.ref x), some (.int l1), some (.int l2)] [] h) := zblk r [30, 71] 53 _ _ _ _ _
set_option maxRecDepth 100000 in
theorem E_X3_read_71 (r : zE) (h : zH) (x : Nat) (l1 : Int32) (l2 : Int32) : zev r i_X3_read 71 [some (.ref x), some (.int l1), some (.int l2)] [] h =
    ((zgR r h x 3 1).bind fun v1 =>
    (zgI r h v1 1 1).bind fun v2 =>
    if 0 < v2 then
      (zgI r h x 3 2).bind fun v3 =>
      (zgR r h x 3 0).bind fun v4 =>
      (zgI r h v4 4 1).bind fun v5 =>
      if v3 = v5 then
        some (some (.int (-9 : Int32)), h)
      else
        (zgI r h x 3 2).bind fun v6 =>
        some (some (.int v6), h)
    else
      (zgI r h x 3 2).bind fun v7 =>
      some (some (.int v7), h)) := zblk r [30, 71] 53 _ _ _ _ _
set_option maxRecDepth 100000 in
theorem E_X3_skipBlanks_0 (r : zE) (h : zH) (x : Nat) : zev r i_X3_skipBlanks 0 [some (.ref x)] [] h =
    ((zgI r h x 3 2).bind fun v1 =>
    (zgR r h x 3 0).bind fun v2 =>
    (zgI r h v2 4 1).bind fun v3 =>
    if v1 < v3 then
      (zgR r h x 3 0).bind fun v4 =>
      (zgI r h x 3 2).bind fun v5 =>
      if zob r h v4 4 = true then
      (zcI (zev r i_X4_get 0 [some (.ref v4), some (.int v5)] [] h) fun v6 h1 =>
      if v6 = (32 : Int32) then
        (zgI r h1 x 3 2).bind fun v7 =>
        (zpF r h1 x 3 2 (.int (v7 + (1 : Int32)))).bind fun h2 =>
        zev r i_X3_skipBlanks 0 [some (.ref x)] [] h2
      else
        some (none, h1))
      else none
    else
      some (none, h)) := zblk r [0] 24 _ _ _ _ _
set_option maxRecDepth 100000 in
theorem E_X3_readHooks_0 (r : zE) (h : zH) (x : Nat) : zev r i_X3_readHooks 0 [some (.ref x), none] [] h =
    ((zgR r h x 3 0).bind fun v1 =>
    (zgI r h x 3 2).bind fun v2 =>
    if zob r h v1 4 = true then
    (zcI (zev r i_X4_has 0 [some (.ref v1), some (.int v2)] [] h) fun v3 h1 =>
    if v3 = 0 then
      some (some (.int (0 : Int32)), h1)
    else
      (zgR r h1 x 3 0).bind fun v4 =>
      (zgI r h1 x 3 2).bind fun v5 =>
      if zob r h1 v4 4 = true then
      (zcI (zev r i_X4_get 0 [some (.ref v4), some (.int v5)] [] h1) fun v6 h2 =>
      if v6 = (107 : Int32) then
        (zgI r h2 x 3 2).bind fun v7 =>
        (zpF r h2 x 3 2 (.int (v7 + (1 : Int32)))).bind fun h3 =>
        zev r i_X3_readHooks 42 [some (.ref x), none] [] h3
      else
        some (some (.int (0 : Int32)), h2))
      else none)
    else none) := zblk r [42] 65 _ _ _ _ _
set_option maxRecDepth 100000 in
theorem E_X3_readHooks_42 (r : zE) (h : zH) (x : Nat) : zev r i_X3_readHooks 42 [some (.ref x), none] [] h =
    ((zgI r h x 3 2).bind fun v1 =>
    (zgR r h x 3 0).bind fun v2 =>
    (zgI r h v2 4 1).bind fun v3 =>
    if v1 < v3 then
      if zob r h x 3 = true then
      (zcI (zev r i_X3_letterIn 0 [some (.ref x), some (.ref (r.2.2 2)), none] [] h) fun v4 h1 =>
      if v4 = (-9 : Int32) then
        (zgR r h1 x 3 1).bind fun v5 =>
        (zgI r h1 v5 1 0).bind fun v6 =>
        if v6 < (2 : Int32) then
          some (some (.int (0 : Int32)), h1)
        else
          some (some (.int (1 : Int32)), h1)
      else
        (zgR r h1 x 3 1).bind fun v7 =>
        (zgI r h1 v7 1 0).bind fun v8 =>
        if v8 = (7 : Int32) then
          some (some (.int (0 : Int32)), h1)
        else
          (zgR r h1 x 3 1).bind fun v9 =>
          if zob r h1 v9 1 = true then
          (zcV (zev r i_X1_addHook 0 [some (.ref v9), some (.int v4)] [] h1) fun h2 =>
          (zgI r h2 x 3 2).bind fun v10 =>
          (zpF r h2 x 3 2 (.int (v10 + (1 : Int32)))).bind fun h3 =>
          zev r i_X3_readHooks 42 [some (.ref x), none] [] h3)
          else none)
      else none
    else
      (zgR r h x 3 1).bind fun v11 =>
      (zgI r h v11 1 0).bind fun v12 =>
      if v12 < (2 : Int32) then
        some (some (.int (0 : Int32)), h)
      else
        some (some (.int (1 : Int32)), h)) := zblk r [42] 65 _ _ _ _ _
set_option maxRecDepth 100000 in
theorem E_X3_readMan_0 (r : zE) (h : zH) (x : Nat) : zev r i_X3_readMan 0 [some (.ref x), none, none, none, none] [] h =
    (if zob r h x 3 = true then
    (zcI (zev r i_X3_letterIn 0 [some (.ref x), some (.ref (r.2.2 1)), none] [] h) fun v1 h1 =>
    if v1 = (-9 : Int32) then
      some (some (.int (0 : Int32)), h1)
    else
      (zgI r h1 x 3 2).bind fun v2 =>
      (zpF r h1 x 3 2 (.int (v2 + (1 : Int32)))).bind fun h2 =>
      if zob r h2 x 3 = true then
      (zcI (zev r i_X3_readFigure 0 [some (.ref x), some (.int (1 : Int32)), some (.int (9 : Int32)), none] [] h2) fun v3 h3 =>
      if v3 = (-9 : Int32) then
        some (some (.int (0 : Int32)), h3)
      else
        if zob r h3 x 3 = true then
        (zcI (zev r i_X3_readFigure 0 [some (.ref x), some (.int (0 : Int32)), some (.int (1 : Int32)), none] [] h3) fun v4 h4 =>
        if v4 = (-9 : Int32) then
          some (some (.int (0 : Int32)), h4)
        else
          if zob r h4 x 3 = true then
          (zcI (zev r i_X3_readFigure 0 [some (.ref x), some (.int (0 : Int32)), some (.int (3 : Int32)), none] [] h4) fun v5 h5 =>
          if v5 = (-9 : Int32) then
            some (some (.int (0 : Int32)), h5)
          else
            (zgR r h5 x 3 1).bind fun v6 =>
            if zob r h5 v6 1 = true then
            (zcV (zev r i_X1_addMan 0 [some (.ref v6), some (.int v1), some (.int v3), some (.int v4), some (.int v5)] [] h5) fun h6 =>
            some (some (.int (1 : Int32)), h6))
            else none)
          else none)
        else none)
      else none)
    else none) := zblk r [] 57 _ _ _ _ _
set_option maxRecDepth 100000 in
theorem E_X3_letterIn_0 (r : zE) (h : zH) (x : Nat) (a1 : Nat) : zev r i_X3_letterIn 0 [some (.ref x), some (.ref a1), none] [] h =
    (zev r i_X3_letterIn 2 [some (.ref x), some (.ref a1), some (.int (0 : Int32))] [] h) := zblk r [2] 30 _ _ _ _ _
set_option maxRecDepth 100000 in
theorem E_X3_letterIn_2 (r : zE) (h : zH) (x : Nat) (l1 : Nat) (l2 : Int32) : zev r i_X3_letterIn 2 [some (.ref x), some (.ref l1), some (.int l2)] [] h =
    ((zaN r h l1).bind fun n1 =>
    if l2 < (Int32.ofNat n1) then
      (zgR r h x 3 0).bind fun v2 =>
      (zgI r h x 3 2).bind fun v3 =>
      if zob r h v2 4 = true then
      (zcI (zev r i_X4_has 0 [some (.ref v2), some (.int v3)] [] h) fun v4 h1 =>
      if v4 = 0 then
        zev r i_X3_letterIn 2 [some (.ref x), some (.ref l1), some (.int (l2 + (1 : Int32)))] [] h1
      else
        (zgR r h1 x 3 0).bind fun v5 =>
        (zgI r h1 x 3 2).bind fun v6 =>
        if zob r h1 v5 4 = true then
        (zcI (zev r i_X4_get 0 [some (.ref v5), some (.int v6)] [] h1) fun v7 h2 =>
        (zaC r l1 l2).bind fun v8 =>
        if v7 = v8 then
          some (some (.int l2), h2)
        else
          zev r i_X3_letterIn 2 [some (.ref x), some (.ref l1), some (.int (l2 + (1 : Int32)))] [] h2)
        else none)
      else none
    else
      some (some (.int (-9 : Int32)), h)) := zblk r [2] 30 _ _ _ _ _
set_option maxRecDepth 100000 in
theorem E_X3_readFigure_0 (r : zE) (h : zH) (x : Nat) (i1 : Int32) (i2 : Int32) : zev r i_X3_readFigure 0 [some (.ref x), some (.int i1), some (.int i2), none] [] h =
    ((zgR r h x 3 0).bind fun v1 =>
    (zgI r h x 3 2).bind fun v2 =>
    if zob r h v1 4 = true then
    (zcI (zev r i_X4_has 0 [some (.ref v1), some (.int v2)] [] h) fun v3 h1 =>
    if v3 = 0 then
      zev r i_X3_readFigure 33 [some (.ref x), some (.int i1), some (.int i2), none] [.int (-9 : Int32)] h1
    else
      (zgR r h1 x 3 0).bind fun v4 =>
      (zgI r h1 x 3 2).bind fun v5 =>
      if zob r h1 v4 4 = true then
      (zcI (zev r i_X4_get 0 [some (.ref v4), some (.int v5)] [] h1) fun v6 h2 =>
      zev r i_X3_readFigure 33 [some (.ref x), some (.int i1), some (.int i2), none] [.int (v6 - (48 : Int32))] h2)
      else none)
    else none) := zblk r [33] 35 _ _ _ _ _
set_option maxRecDepth 100000 in
theorem E_X3_readFigure_33 (r : zE) (h : zH) (x : Nat) (l1 : Int32) (l2 : Int32) (s0 : Int32) : zev r i_X3_readFigure 33 [some (.ref x), some (.int l1), some (.int l2), none] [.int s0] h =
    (if s0 < l1 then
      some (some (.int (-9 : Int32)), h)
    else
      if l2 < s0 then
        some (some (.int (-9 : Int32)), h)
      else
        (zgI r h x 3 2).bind fun v1 =>
        (zpF r h x 3 2 (.int (v1 + (1 : Int32)))).bind fun h1 =>
        some (some (.int s0), h1)) := zblk r [33] 35 _ _ _ _ _
set_option maxRecDepth 100000 in
theorem E_X4_init_0 (r : zE) (h : zH) (x : Nat) : zev r i_X4_init 0 [some (.ref x)] [] h =
    ((zpF r (h ++ [.inl (60, fun _ => 0)] : zH) x 4 0 (.ref (r.1 + h.length))).bind fun h1 =>
    (zpF r h1 x 4 1 (.int (-1 : Int32))).bind fun h2 =>
    some (none, h2)) := zblk r [] 13 _ _ _ _ _
set_option maxRecDepth 100000 in
theorem E_X4_isMissing_0 (r : zE) (h : zH) (x : Nat) : zev r i_X4_isMissing 0 [some (.ref x)] [] h =
    ((zgI r h x 4 1).bind fun v1 =>
    if v1 = (-1 : Int32) then
      some (some (.int (1 : Int32)), h)
    else
      some (some (.int (0 : Int32)), h)) := zblk r [] 11 _ _ _ _ _
set_option maxRecDepth 100000 in
theorem E_X4_has_0 (r : zE) (h : zH) (x : Nat) (i1 : Int32) : zev r i_X4_has 0 [some (.ref x), some (.int i1)] [] h =
    (if i1 < 0 then
      some (some (.int (0 : Int32)), h)
    else
      (zgI r h x 4 1).bind fun v1 =>
      if i1 < v1 then
        some (some (.int (1 : Int32)), h)
      else
        some (some (.int (0 : Int32)), h)) := zblk r [] 13 _ _ _ _ _
set_option maxRecDepth 100000 in
theorem E_X4_get_0 (r : zE) (h : zH) (x : Nat) (i1 : Int32) : zev r i_X4_get 0 [some (.ref x), some (.int i1)] [] h =
    (if zob r h x 4 = true then
    (zcI (zev r i_X4_has 0 [some (.ref x), some (.int i1)] [] h) fun v1 h1 =>
    if v1 = 0 then
      some (some (.int (0 : Int32)), h1)
    else
      (zgR r h1 x 4 0).bind fun v2 =>
      (zaI r h1 v2 i1).bind fun v3 =>
      some (some (.int v3), h1))
    else none) := zblk r [] 14 _ _ _ _ _
set_option maxRecDepth 100000 in
theorem E_X4_set_0 (r : zE) (h : zH) (x : Nat) (i1 : Int32) (i2 : Int32) : zev r i_X4_set 0 [some (.ref x), some (.int i1), some (.int i2)] [] h =
    (if zob r h x 4 = true then
    (zcI (zev r i_X4_has 0 [some (.ref x), some (.int i1)] [] h) fun v1 h1 =>
    if v1 = 0 then
      some (none, h1)
    else
      (zgR r h1 x 4 0).bind fun v2 =>
      (zsI r h1 v2 i1 i2).bind fun h2 =>
      some (none, h2))
    else none) := zblk r [] 13 _ _ _ _ _
set_option maxRecDepth 100000 in
theorem E_X4_renew_0 (r : zE) (h : zH) (x : Nat) (i1 : Int32) (i2 : Int32) : zev r i_X4_renew 0 [some (.ref x), some (.int i1), some (.int i2)] [] h =
    ((zgR r h x 4 0).bind fun v1 =>
    (zaN r h v1).bind fun n2 =>
    (zpF r h x 4 1 (.int (if (0 : Int32) < (if (Int32.ofNat n2) < i1 then (Int32.ofNat n2) else i1) then (if (Int32.ofNat n2) < i1 then (Int32.ofNat n2) else i1) else (0 : Int32)))).bind fun h1 =>
    (zgR r h1 x 4 0).bind fun v3 =>
    zcV (zev r i_J7_fill_53178 0 [some (.ref v3), some (.int i2), none, none] [] h1) fun h2 =>
    some (none, h2)) := zblk r [] 17 _ _ _ _ _
set_option maxRecDepth 100000 in
theorem E_X4_discard_0 (r : zE) (h : zH) (x : Nat) : zev r i_X4_discard 0 [some (.ref x)] [] h =
    ((zpF r h x 4 1 (.int (-1 : Int32))).bind fun h1 =>
    some (none, h1)) := zblk r [] 7 _ _ _ _ _
set_option maxRecDepth 100000 in
theorem E_X4_digestedOnto_0 (r : zE) (h : zH) (x : Nat) (j1 : Int64) : zev r i_X4_digestedOnto 0 [some (.ref x), some (.long j1), none, none, none, none] [] h =
    ((zgI r h x 4 1).bind fun v1 =>
    zev r i_X4_digestedOnto 15 [some (.ref x), some (.long j1), none, some (.long (((31 : Int64) * j1) + v1.toInt64)), none, some (.int (0 : Int32))] [] h) := zblk r [15] 30 _ _ _ _ _
set_option maxRecDepth 100000 in
theorem E_X4_digestedOnto_15 (r : zE) (h : zH) (x : Nat) (l1 : Int64) (l3 : Int64) (l5 : Int32) : zev r i_X4_digestedOnto 15 [some (.ref x), some (.long l1), none, some (.long l3), none, some (.int l5)] [] h =
    ((zgI r h x 4 1).bind fun v1 =>
    if l5 < v1 then
      if zob r h x 4 = true then
      (zcI (zev r i_X4_get 0 [some (.ref x), some (.int l5)] [] h) fun v2 h1 =>
      zev r i_X4_digestedOnto 15 [some (.ref x), some (.long l1), none, some (.long (((31 : Int64) * l3) + v2.toInt64)), none, some (.int (l5 + (1 : Int32)))] [] h1)
      else none
    else
      some (some (.long l3), h)) := zblk r [15] 30 _ _ _ _ _
set_option maxRecDepth 100000 in
theorem E_J6_bitCount_0f7a4_0 (r : zE) (h : zH) (i1 : Int32) : zev r i_J6_bitCount_0f7a4 0 [some (.int i1)] [] h =
    (some (some (.int ((((((((i1 - (((i1.toUInt32 >>> ((1 : Int32).toUInt32 &&& Int32.toUInt32 31)).toInt32) &&& (1431655765 : Int32))) &&& (858993459 : Int32)) + ((((i1 - (((i1.toUInt32 >>> ((1 : Int32).toUInt32 &&& Int32.toUInt32 31)).toInt32) &&& (1431655765 : Int32))).toUInt32 >>> ((2 : Int32).toUInt32 &&& Int32.toUInt32 31)).toInt32) &&& (858993459 : Int32))) + (((((i1 - (((i1.toUInt32 >>> ((1 : Int32).toUInt32 &&& Int32.toUInt32 31)).toInt32) &&& (1431655765 : Int32))) &&& (858993459 : Int32)) + ((((i1 - (((i1.toUInt32 >>> ((1 : Int32).toUInt32 &&& Int32.toUInt32 31)).toInt32) &&& (1431655765 : Int32))).toUInt32 >>> ((2 : Int32).toUInt32 &&& Int32.toUInt32 31)).toInt32) &&& (858993459 : Int32))).toUInt32 >>> ((4 : Int32).toUInt32 &&& Int32.toUInt32 31)).toInt32)) &&& (252645135 : Int32)) + (((((((i1 - (((i1.toUInt32 >>> ((1 : Int32).toUInt32 &&& Int32.toUInt32 31)).toInt32) &&& (1431655765 : Int32))) &&& (858993459 : Int32)) + ((((i1 - (((i1.toUInt32 >>> ((1 : Int32).toUInt32 &&& Int32.toUInt32 31)).toInt32) &&& (1431655765 : Int32))).toUInt32 >>> ((2 : Int32).toUInt32 &&& Int32.toUInt32 31)).toInt32) &&& (858993459 : Int32))) + (((((i1 - (((i1.toUInt32 >>> ((1 : Int32).toUInt32 &&& Int32.toUInt32 31)).toInt32) &&& (1431655765 : Int32))) &&& (858993459 : Int32)) + ((((i1 - (((i1.toUInt32 >>> ((1 : Int32).toUInt32 &&& Int32.toUInt32 31)).toInt32) &&& (1431655765 : Int32))).toUInt32 >>> ((2 : Int32).toUInt32 &&& Int32.toUInt32 31)).toInt32) &&& (858993459 : Int32))).toUInt32 >>> ((4 : Int32).toUInt32 &&& Int32.toUInt32 31)).toInt32)) &&& (252645135 : Int32)).toUInt32 >>> ((8 : Int32).toUInt32 &&& Int32.toUInt32 31)).toInt32)) + ((((((((i1 - (((i1.toUInt32 >>> ((1 : Int32).toUInt32 &&& Int32.toUInt32 31)).toInt32) &&& (1431655765 : Int32))) &&& (858993459 : Int32)) + ((((i1 - (((i1.toUInt32 >>> ((1 : Int32).toUInt32 &&& Int32.toUInt32 31)).toInt32) &&& (1431655765 : Int32))).toUInt32 >>> ((2 : Int32).toUInt32 &&& Int32.toUInt32 31)).toInt32) &&& (858993459 : Int32))) + (((((i1 - (((i1.toUInt32 >>> ((1 : Int32).toUInt32 &&& Int32.toUInt32 31)).toInt32) &&& (1431655765 : Int32))) &&& (858993459 : Int32)) + ((((i1 - (((i1.toUInt32 >>> ((1 : Int32).toUInt32 &&& Int32.toUInt32 31)).toInt32) &&& (1431655765 : Int32))).toUInt32 >>> ((2 : Int32).toUInt32 &&& Int32.toUInt32 31)).toInt32) &&& (858993459 : Int32))).toUInt32 >>> ((4 : Int32).toUInt32 &&& Int32.toUInt32 31)).toInt32)) &&& (252645135 : Int32)) + (((((((i1 - (((i1.toUInt32 >>> ((1 : Int32).toUInt32 &&& Int32.toUInt32 31)).toInt32) &&& (1431655765 : Int32))) &&& (858993459 : Int32)) + ((((i1 - (((i1.toUInt32 >>> ((1 : Int32).toUInt32 &&& Int32.toUInt32 31)).toInt32) &&& (1431655765 : Int32))).toUInt32 >>> ((2 : Int32).toUInt32 &&& Int32.toUInt32 31)).toInt32) &&& (858993459 : Int32))) + (((((i1 - (((i1.toUInt32 >>> ((1 : Int32).toUInt32 &&& Int32.toUInt32 31)).toInt32) &&& (1431655765 : Int32))) &&& (858993459 : Int32)) + ((((i1 - (((i1.toUInt32 >>> ((1 : Int32).toUInt32 &&& Int32.toUInt32 31)).toInt32) &&& (1431655765 : Int32))).toUInt32 >>> ((2 : Int32).toUInt32 &&& Int32.toUInt32 31)).toInt32) &&& (858993459 : Int32))).toUInt32 >>> ((4 : Int32).toUInt32 &&& Int32.toUInt32 31)).toInt32)) &&& (252645135 : Int32)).toUInt32 >>> ((8 : Int32).toUInt32 &&& Int32.toUInt32 31)).toInt32)).toUInt32 >>> ((16 : Int32).toUInt32 &&& Int32.toUInt32 31)).toInt32)) &&& (63 : Int32))), h)) := zblk r [] 45 _ _ _ _ _
set_option maxRecDepth 100000 in
theorem E_J7_fill_53178_0 (r : zE) (h : zH) (a1 : Nat) (i2 : Int32) : zev r i_J7_fill_53178 0 [some (.ref a1), some (.int i2), none, none] [] h =
    ((zaN r h a1).bind fun n1 =>
    zev r i_J7_fill_53178 5 [some (.ref a1), some (.int i2), some (.int (0 : Int32)), some (.int (Int32.ofNat n1))] [] h) := zblk r [5] 18 _ _ _ _ _
set_option maxRecDepth 100000 in
theorem E_J7_fill_53178_5 (r : zE) (h : zH) (l0 : Nat) (l1 : Int32) (l2 : Int32) (l3 : Int32) : zev r i_J7_fill_53178 5 [some (.ref l0), some (.int l1), some (.int l2), some (.int l3)] [] h =
    (if l2 < l3 then
      (zsI r h l0 l2 l1).bind fun h1 =>
      zev r i_J7_fill_53178 5 [some (.ref l0), some (.int l1), some (.int (l2 + (1 : Int32))), some (.int l3)] [] h1
    else
      some (none, h)) := zblk r [5] 18 _ _ _ _ _
