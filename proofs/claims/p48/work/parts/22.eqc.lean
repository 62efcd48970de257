/-! stretches of code as equations (printed by wip/p48/gen20.py) -/
set_option maxHeartbeats 4000000 in
set_option maxRecDepth 100000 in
theorem E_L_cell_0 (r : zE) (h : zH) (a1 : Nat) (i2 : Int32) : zev r i_L_cell 0 [some (.ref a1), some (.int i2)] [] h =
    ((zaN r h a1).bind fun n1 =>
    if i2 < (Int32.ofNat n1) then
      (zaI r h a1 i2).bind fun v2 =>
      some (some (.int v2), h)
    else
      some (some (.int ((40503 : Int32) * (i2 + (7 : Int32)))), h)) := zblk r [] 17 _ _ _ _ _
set_option maxHeartbeats 4000000 in
set_option maxRecDepth 100000 in
theorem E_L_low_0 (r : zE) (h : zH) (i1 : Int32) (i2 : Int32) : zev r i_L_low 0 [some (.int i1), some (.int i2)] [] h =
    (if i2 = 0 then none else
    some (some (.int ((i1 &&& (2147483647 : Int32)) - (i1 &&& (2147483647 : Int32)) / i2 * i2)), h)) := zblk r [] 9 _ _ _ _ _
set_option maxHeartbeats 4000000 in
set_option maxRecDepth 100000 in
theorem E_L_letter_0 (r : zE) (h : zH) (i1 : Int32) : zev r i_L_letter 0 [some (.int i1)] [] h =
    (if i1 = 0 then
      some (some (.int (109 : Int32)), h)
    else
      if i1 = (1 : Int32) then
        some (some (.int (116 : Int32)), h)
      else
        if i1 = (2 : Int32) then
          some (some (.int (115 : Int32)), h)
        else
          if i1 = (3 : Int32) then
            some (some (.int (102 : Int32)), h)
          else
            if i1 = (4 : Int32) then
              some (some (.int (110 : Int32)), h)
            else
              some (some (.int (105 : Int32)), h)) := zblk r [] 29 _ _ _ _ _
set_option maxHeartbeats 4000000 in
set_option maxRecDepth 100000 in
theorem E_L_placeLetter_0 (r : zE) (h : zH) (i1 : Int32) : zev r i_L_placeLetter 0 [some (.int i1)] [] h =
    (if i1 = 0 then
      some (some (.int (46 : Int32)), h)
    else
      if i1 = (1 : Int32) then
        some (some (.int (100 : Int32)), h)
      else
        if i1 = (2 : Int32) then
          some (some (.int (108 : Int32)), h)
        else
          if i1 = (3 : Int32) then
            some (some (.int (117 : Int32)), h)
          else
            some (some (.int (103 : Int32)), h)) := zblk r [] 24 _ _ _ _ _
set_option maxHeartbeats 4000000 in
set_option maxRecDepth 100000 in
theorem E_L_deck_0 (r : zE) (h : zH) (a1 : Nat) (a2 : Nat) (a3 : Nat) (a4 : Nat) : zev r i_L_deck 0 [some (.ref a1), some (.ref a2), some (.ref a3), some (.ref a4), none, none, none, none] [] h =
    (zcI (zev r i_L_cell 0 [some (.ref a2), some (.int (0 : Int32))] [] h) fun v1 h1 =>
    zcI (zev r i_L_low 0 [some (.int v1), some (.int (6 : Int32))] [] h1) fun v2 h2 =>
    (zsI r h2 a3 (0 : Int32) ((2 : Int32) + v2)).bind fun h3 =>
    (zaI r h3 a3 (0 : Int32)).bind fun v3 =>
    if v3 < (6 : Int32) then
      (zaI r h3 a3 (0 : Int32)).bind fun v4 =>
      zev r i_L_deck 42 [some (.ref a1), some (.ref a2), some (.ref a3), some (.ref a4), some (.int v1), none, none, none] [.int v4, .int (v1 >>> ((3 : Int32) &&& 31)), .int (1 : Int32), .int (1 : Int32), .ref a3] h3
    else
      zev r i_L_deck 42 [some (.ref a1), some (.ref a2), some (.ref a3), some (.ref a4), some (.int v1), none, none, none] [.int (6 : Int32), .int (v1 >>> ((3 : Int32) &&& 31)), .int (1 : Int32), .int (1 : Int32), .ref a3] h3) := zblk r [42, 83, 125, 171, 214] 272 _ _ _ _ _
set_option maxHeartbeats 4000000 in
set_option maxRecDepth 100000 in
theorem E_L_deck_42 (r : zE) (h : zH) (l0 : Nat) (l1 : Nat) (l2 : Nat) (l3 : Nat) (l4 : Int32) (s0 : Int32) (s1 : Int32) (s2 : Int32) (s3 : Int32) (s4 : Nat) : zev r i_L_deck 42 [some (.ref l0), some (.ref l1), some (.ref l2), some (.ref l3), some (.int l4), none, none, none] [.int s0, .int s1, .int s2, .int s3, .ref s4] h =
    (zcI (zev r i_L_low 0 [some (.int s1), some (.int s0)] [] h) fun v1 h1 =>
    (zsI r h1 s4 s3 (s2 + v1)).bind fun h2 =>
    if zob r h2 l0 5 = true then
    (zcI (zev r i_X5_text 0 [some (.ref l0), some (.int (0 : Int32)), some (.int (60 : Int32))] [] h2) fun v2 h3 =>
    if v2 = (60 : Int32) then
      if zob r h3 l0 5 = true then
      (zcI (zev r i_X5_put 0 [some (.ref l0), some (.int (0 : Int32)), some (.int (0 : Int32)), some (.int (107 : Int32)), none, none] [] h3) fun v3 h4 =>
      if v3 = (1032 : Int32) then
        zev r i_L_deck 83 [some (.ref l0), some (.ref l1), some (.ref l2), some (.ref l3), some (.int l4), some (.int (1 : Int32)), some (.int (0 : Int32)), none] [] h4
      else
        zev r i_L_deck 83 [some (.ref l0), some (.ref l1), some (.ref l2), some (.ref l3), some (.int l4), some (.int (0 : Int32)), some (.int (0 : Int32)), none] [] h4)
      else none
    else
      zev r i_L_deck 83 [some (.ref l0), some (.ref l1), some (.ref l2), some (.ref l3), some (.int l4), some (.int (0 : Int32)), some (.int (0 : Int32)), none] [] h3)
    else none) := zblk r [42, 83, 125, 171, 214] 272 _ _ _ _ _
set_option maxHeartbeats 4000000 in
set_option maxRecDepth 100000 in
theorem E_L_deck_83 (r : zE) (h : zH) (l0 : Nat) (l1 : Nat) (l2 : Nat) (l3 : Nat) (l4 : Int32) (l5 : Int32) (l6 : Int32) : zev r i_L_deck 83 [some (.ref l0), some (.ref l1), some (.ref l2), some (.ref l3), some (.int l4), some (.int l5), some (.int l6), none] [] h =
    ((zaI r h l2 (0 : Int32)).bind fun v1 =>
    if l6 < v1 then
      if ((l4 >>> (((10 : Int32) + l6) &&& 31)) &&& (1 : Int32)) = 0 then
        zev r i_L_deck 125 [some (.ref l0), some (.ref l1), some (.ref l2), some (.ref l3), some (.int l4), some (.int l5), some (.int l6), none] [.int (0 : Int32), .int ((2 : Int32) + l6), .ref l2] h
      else
        zcI (zev r i_L_low 0 [some (.int (l4 >>> (((17 : Int32) + l6) &&& 31))), some (.int (5 : Int32))] [] h) fun v2 h1 =>
        zev r i_L_deck 125 [some (.ref l0), some (.ref l1), some (.ref l2), some (.ref l3), some (.int l4), some (.int l5), some (.int l6), none] [.int v2, .int ((2 : Int32) + l6), .ref l2] h1
    else
      zev r i_L_deck 171 [some (.ref l0), some (.ref l1), some (.ref l2), some (.ref l3), some (.int l4), some (.int l5), some (.int (0 : Int32)), none] [] h) := zblk r [42, 83, 125, 171, 214] 272 _ _ _ _ _
set_option maxHeartbeats 4000000 in
set_option maxRecDepth 100000 in
theorem E_L_deck_125 (r : zE) (h : zH) (l0 : Nat) (l1 : Nat) (l2 : Nat) (l3 : Nat) (l4 : Int32) (l5 : Int32) (l6 : Int32) (s0 : Int32) (s1 : Int32) (s2 : Nat) : zev r i_L_deck 125 [some (.ref l0), some (.ref l1), some (.ref l2), some (.ref l3), some (.int l4), some (.int l5), some (.int l6), none] [.int s0, .int s1, .ref s2] h =
    ((zsI r h s2 s1 s0).bind fun h1 =>
    if l5 = 0 then
      zev r i_L_deck 83 [some (.ref l0), some (.ref l1), some (.ref l2), some (.ref l3), some (.int l4), some (.int (0 : Int32)), some (.int (l6 + (1 : Int32))), none] [] h1
    else
      (zaI r h1 l2 ((2 : Int32) + l6)).bind fun v1 =>
      zcI (zev r i_L_placeLetter 0 [some (.int v1)] [] h1) fun v2 h2 =>
      if zob r h2 l0 5 = true then
      (zcI (zev r i_X5_put 0 [some (.ref l0), some (.int (0 : Int32)), some (.int ((1 : Int32) + l6)), some (.int v2), none, none] [] h2) fun v3 h3 =>
      if v3 = (1032 : Int32) then
        zev r i_L_deck 83 [some (.ref l0), some (.ref l1), some (.ref l2), some (.ref l3), some (.int l4), some (.int (1 : Int32)), some (.int (l6 + (1 : Int32))), none] [] h3
      else
        zev r i_L_deck 83 [some (.ref l0), some (.ref l1), some (.ref l2), some (.ref l3), some (.int l4), some (.int (0 : Int32)), some (.int (l6 + (1 : Int32))), none] [] h3)
      else none) := zblk r [42, 83, 125, 171, 214] 272 _ _ _ _ _
set_option maxHeartbeats 4000000 in
set_option maxRecDepth 100000 in
theorem E_L_deck_171 (r : zE) (h : zH) (l0 : Nat) (l1 : Nat) (l2 : Nat) (l3 : Nat) (l4 : Int32) (l5 : Int32) (l6 : Int32) : zev r i_L_deck 171 [some (.ref l0), some (.ref l1), some (.ref l2), some (.ref l3), some (.int l4), some (.int l5), some (.int l6), none] [] h =
    (if l6 < (6 : Int32) then
      (zaI r h l2 (1 : Int32)).bind fun v1 =>
      if l6 < v1 then
        (zsI r h l3 l6 l6).bind fun h1 =>
        (zsI r h1 l3 ((12 : Int32) + l6) (0 : Int32)).bind fun h2 =>
        zev r i_L_deck 171 [some (.ref l0), some (.ref l1), some (.ref l2), some (.ref l3), some (.int l4), some (.int l5), some (.int (l6 + (1 : Int32))), none] [] h2
      else
        (zsI r h l3 l6 (-9 : Int32)).bind fun h3 =>
        (zsI r h3 l3 ((12 : Int32) + l6) (0 : Int32)).bind fun h4 =>
        zev r i_L_deck 171 [some (.ref l0), some (.ref l1), some (.ref l2), some (.ref l3), some (.int l4), some (.int l5), some (.int (l6 + (1 : Int32))), none] [] h4
    else
      zev r i_L_deck 214 [some (.ref l0), some (.ref l1), some (.ref l2), some (.ref l3), some (.int l4), some (.int l5), some (.int (0 : Int32)), none] [] h) := zblk r [42, 83, 125, 171, 214] 272 _ _ _ _ _
set_option maxHeartbeats 4000000 in
set_option maxRecDepth 100000 in
theorem E_L_deck_214 (r : zE) (h : zH) (l0 : Nat) (l1 : Nat) (l2 : Nat) (l3 : Nat) (l4 : Int32) (l5 : Int32) (l6 : Int32) : zev r i_L_deck 214 [some (.ref l0), some (.ref l1), some (.ref l2), some (.ref l3), some (.int l4), some (.int l5), some (.int l6), none] [] h =
    ((zaI r h l2 (1 : Int32)).bind fun v1 =>
    if l6 < v1 then
      zcI (zev r i_L_cell 0 [some (.ref l1), some (.int ((1 : Int32) + l6))] [] h) fun v2 h1 =>
      zcI (zev r i_L_low 0 [some (.int v2), some (.int (6 : Int32))] [] h1) fun v3 h2 =>
      (zsI r h2 l2 ((9 : Int32) + l6) v3).bind fun h3 =>
      zcI (zev r i_L_low 0 [some (.int (v2 >>> ((3 : Int32) &&& 31))), some (.int (9 : Int32))] [] h3) fun v4 h4 =>
      (zsI r h4 l3 ((6 : Int32) + l6) ((1 : Int32) + v4)).bind fun h5 =>
      (zsI r h5 l2 ((15 : Int32) + l6) ((v2 >>> ((7 : Int32) &&& 31)) &&& (1 : Int32))).bind fun h6 =>
      (zsI r h6 l2 ((21 : Int32) + l6) ((v2 >>> ((8 : Int32) &&& 31)) &&& (3 : Int32))).bind fun h7 =>
      if l5 = 0 then
        zev r i_L_deck 214 [some (.ref l0), some (.ref l1), some (.ref l2), some (.ref l3), some (.int l4), some (.int (0 : Int32)), some (.int (l6 + (1 : Int32))), none] [] h7
      else
        (zaI r h7 l2 ((9 : Int32) + l6)).bind fun v5 =>
        zcI (zev r i_L_letter 0 [some (.int v5)] [] h7) fun v6 h8 =>
        if zob r h8 l0 5 = true then
        (zcI (zev r i_X5_put 0 [some (.ref l0), some (.int (0 : Int32)), some (.int ((9 : Int32) + ((5 : Int32) * l6))), some (.int v6), none, none] [] h8) fun v7 h9 =>
        if v7 = (1032 : Int32) then
          (zaI r h9 l3 ((6 : Int32) + l6)).bind fun v8 =>
          if zob r h9 l0 5 = true then
          (zcI (zev r i_X5_put 0 [some (.ref l0), some (.int (0 : Int32)), some (.int ((10 : Int32) + ((5 : Int32) * l6))), some (.int ((48 : Int32) + v8)), none, none] [] h9) fun v9 h10 =>
          if v9 = (1032 : Int32) then
            (zaI r h10 l2 ((15 : Int32) + l6)).bind fun v10 =>
            if zob r h10 l0 5 = true then
            (zcI (zev r i_X5_put 0 [some (.ref l0), some (.int (0 : Int32)), some (.int ((11 : Int32) + ((5 : Int32) * l6))), some (.int ((48 : Int32) + v10)), none, none] [] h10) fun v11 h11 =>
            if v11 = (1032 : Int32) then
              (zaI r h11 l2 ((21 : Int32) + l6)).bind fun v12 =>
              if zob r h11 l0 5 = true then
              (zcI (zev r i_X5_put 0 [some (.ref l0), some (.int (0 : Int32)), some (.int ((12 : Int32) + ((5 : Int32) * l6))), some (.int ((48 : Int32) + v12)), none, none] [] h11) fun v13 h12 =>
              if v13 = (1032 : Int32) then
                zev r i_L_deck 214 [some (.ref l0), some (.ref l1), some (.ref l2), some (.ref l3), some (.int l4), some (.int (1 : Int32)), some (.int (l6 + (1 : Int32))), none] [] h12
              else
                zev r i_L_deck 214 [some (.ref l0), some (.ref l1), some (.ref l2), some (.ref l3), some (.int l4), some (.int (0 : Int32)), some (.int (l6 + (1 : Int32))), none] [] h12)
              else none
            else
              zev r i_L_deck 214 [some (.ref l0), some (.ref l1), some (.ref l2), some (.ref l3), some (.int l4), some (.int (0 : Int32)), some (.int (l6 + (1 : Int32))), none] [] h11)
            else none
          else
            zev r i_L_deck 214 [some (.ref l0), some (.ref l1), some (.ref l2), some (.ref l3), some (.int l4), some (.int (0 : Int32)), some (.int (l6 + (1 : Int32))), none] [] h10)
          else none
        else
          zev r i_L_deck 214 [some (.ref l0), some (.ref l1), some (.ref l2), some (.ref l3), some (.int l4), some (.int (0 : Int32)), some (.int (l6 + (1 : Int32))), none] [] h9)
        else none
    else
      if l5 = 0 then
        some (some (.int (0 : Int32)), h)
      else
        if zob r h l0 5 = true then
        (zcI (zev r i_X5_fault 0 [some (.ref l0), some (.int (0 : Int32)), none] [] h) fun v14 h13 =>
        if v14 = (-9 : Int32) then
          if zob r h13 l0 5 = true then
          (zcI (zev r i_X5_deck 0 [some (.ref l0), some (.int (0 : Int32)), none, none, none] [] h13) fun v15 h14 =>
          (zaI r h14 l2 (1 : Int32)).bind fun v16 =>
          if v15 = v16 then
            some (some (.int (1 : Int32)), h14)
          else
            some (some (.int (0 : Int32)), h14))
          else none
        else
          some (some (.int (0 : Int32)), h13))
        else none) := zblk r [42, 83, 125, 171, 214] 272 _ _ _ _ _
set_option maxHeartbeats 4000000 in
set_option maxRecDepth 100000 in
theorem E_L_bits_0 (r : zE) (h : zH) (i1 : Int32) : zev r i_L_bits 0 [some (.int i1), none, none] [] h =
    (zev r i_L_bits 4 [some (.int i1), some (.int (0 : Int32)), some (.int (0 : Int32))] [] h) := zblk r [4] 22 _ _ _ _ _
set_option maxHeartbeats 4000000 in
set_option maxRecDepth 100000 in
theorem E_L_bits_4 (r : zE) (h : zH) (l0 : Int32) (l1 : Int32) (l2 : Int32) : zev r i_L_bits 4 [some (.int l0), some (.int l1), some (.int l2)] [] h =
    (if l2 < (7 : Int32) then
      zev r i_L_bits 4 [some (.int l0), some (.int (l1 + ((l0 >>> (l2 &&& 31)) &&& (1 : Int32)))), some (.int (l2 + (1 : Int32)))] [] h
    else
      some (some (.int l1), h)) := zblk r [4] 22 _ _ _ _ _
set_option maxHeartbeats 4000000 in
set_option maxRecDepth 100000 in
theorem E_L_whoAt_0 (r : zE) (h : zH) (a1 : Nat) (i2 : Int32) : zev r i_L_whoAt 0 [some (.ref a1), some (.int i2), none, none] [] h =
    (zev r i_L_whoAt 5 [some (.ref a1), some (.int i2), some (.int (-9 : Int32)), some (.int (0 : Int32))] [] h) := zblk r [5] 23 _ _ _ _ _
set_option maxHeartbeats 4000000 in
set_option maxRecDepth 100000 in
theorem E_L_whoAt_5 (r : zE) (h : zH) (l0 : Nat) (l1 : Int32) (l2 : Int32) (l3 : Int32) : zev r i_L_whoAt 5 [some (.ref l0), some (.int l1), some (.int l2), some (.int l3)] [] h =
    (if l3 < (6 : Int32) then
      (zaI r h l0 l3).bind fun v1 =>
      if v1 = l1 then
        zev r i_L_whoAt 5 [some (.ref l0), some (.int l1), some (.int l3), some (.int (l3 + (1 : Int32)))] [] h
      else
        zev r i_L_whoAt 5 [some (.ref l0), some (.int l1), some (.int l2), some (.int (l3 + (1 : Int32)))] [] h
    else
      some (some (.int l2), h)) := zblk r [5] 23 _ _ _ _ _
set_option maxHeartbeats 4000000 in
set_option maxRecDepth 100000 in
theorem E_L_stir_0 (r : zE) (h : zH) (a1 : Nat) (a2 : Nat) (a3 : Nat) (i4 : Int32) : zev r i_L_stir 0 [some (.ref a1), some (.ref a2), some (.ref a3), some (.int i4), none, none, none, none, none, none] [] h =
    ((zaI r h a2 (1 : Int32)).bind fun v1 =>
    zcI (zev r i_L_low 0 [some (.int i4), some (.int v1)] [] h) fun v2 h1 =>
    (zaI r h1 a2 (1 : Int32)).bind fun v3 =>
    zcI (zev r i_L_low 0 [some (.int (i4 >>> ((3 : Int32) &&& 31))), some (.int v3)] [] h1) fun v4 h2 =>
    (zaI r h2 a2 (0 : Int32)).bind fun v5 =>
    zcI (zev r i_L_low 0 [some (.int (i4 >>> ((6 : Int32) &&& 31))), some (.int v5)] [] h2) fun v6 h3 =>
    if ((i4 >>> ((9 : Int32) &&& 31)) &&& (1 : Int32)) = 0 then
      zcI (zev r i_L_whoAt 0 [some (.ref a3), some (.int v6), none, none] [] h3) fun v7 h4 =>
      if v7 < 0 then
        zev r i_L_stir 58 [some (.ref a1), some (.ref a2), some (.ref a3), some (.int i4), some (.int v2), some (.int v4), some (.int v6), some (.int (1 : Int32)), none, none] [.int (1 : Int32)] h4
      else
        zev r i_L_stir 58 [some (.ref a1), some (.ref a2), some (.ref a3), some (.int i4), some (.int v2), some (.int v4), some (.int v6), some (.int (1 : Int32)), none, none] [.int (0 : Int32)] h4
    else
      zev r i_L_stir 108 [some (.ref a1), some (.ref a2), some (.ref a3), some (.int i4), some (.int v2), some (.int v4), some (.int v6), some (.int (1 : Int32)), none, none] [] h3) := zblk r [58, 77, 98, 108, 143, 170, 188, 224, 234, 279, 289, 347] 199 _ _ _ _ _
set_option maxHeartbeats 4000000 in
set_option maxRecDepth 100000 in
theorem E_L_stir_58 (r : zE) (h : zH) (l0 : Nat) (l1 : Nat) (l2 : Nat) (l3 : Int32) (l4 : Int32) (l5 : Int32) (l6 : Int32) (l7 : Int32) (s0 : Int32) : zev r i_L_stir 58 [some (.ref l0), some (.ref l1), some (.ref l2), some (.int l3), some (.int l4), some (.int l5), some (.int l6), some (.int l7), none, none] [.int s0] h =
    (if s0 = 0 then
      (zaI r h l2 l4).bind fun v1 =>
      zev r i_L_stir 77 [some (.ref l0), some (.ref l1), some (.ref l2), some (.int l3), some (.int l4), some (.int l5), some (.int l6), some (.int l7), some (.int s0), none] [.int v1, .int l4, .ref l2] h
    else
      zev r i_L_stir 77 [some (.ref l0), some (.ref l1), some (.ref l2), some (.int l3), some (.int l4), some (.int l5), some (.int l6), some (.int l7), some (.int s0), none] [.int l6, .int l4, .ref l2] h) := zblk r [58, 77, 98, 108, 143, 170, 188, 224, 234, 279, 289, 347] 199 _ _ _ _ _
set_option maxHeartbeats 4000000 in
set_option maxRecDepth 100000 in
theorem E_L_stir_108 (r : zE) (h : zH) (l0 : Nat) (l1 : Nat) (l2 : Nat) (l3 : Int32) (l4 : Int32) (l5 : Int32) (l6 : Int32) (l7 : Int32) : zev r i_L_stir 108 [some (.ref l0), some (.ref l1), some (.ref l2), some (.int l3), some (.int l4), some (.int l5), some (.int l6), some (.int l7), none, none] [] h =
    (if ((l3 >>> ((10 : Int32) &&& 31)) &&& (1 : Int32)) = 0 then
      if l4 = l5 then
        zev r i_L_stir 143 [some (.ref l0), some (.ref l1), some (.ref l2), some (.int l3), some (.int l4), some (.int l5), some (.int l6), some (.int l7), none, none] [.int (0 : Int32)] h
      else
        (zaI r h l2 l4).bind fun v1 =>
        if v1 < 0 then
          (zaI r h l2 l5).bind fun v2 =>
          if v2 < 0 then
            zev r i_L_stir 143 [some (.ref l0), some (.ref l1), some (.ref l2), some (.int l3), some (.int l4), some (.int l5), some (.int l6), some (.int l7), none, none] [.int (0 : Int32)] h
          else
            zev r i_L_stir 143 [some (.ref l0), some (.ref l1), some (.ref l2), some (.int l3), some (.int l4), some (.int l5), some (.int l6), some (.int l7), none, none] [.int (1 : Int32)] h
        else
          zev r i_L_stir 143 [some (.ref l0), some (.ref l1), some (.ref l2), some (.int l3), some (.int l4), some (.int l5), some (.int l6), some (.int l7), none, none] [.int (1 : Int32)] h
    else
      zev r i_L_stir 234 [some (.ref l0), some (.ref l1), some (.ref l2), some (.int l3), some (.int l4), some (.int l5), some (.int l6), some (.int l7), none, none] [] h) := zblk r [58, 77, 98, 108, 143, 170, 188, 224, 234, 279, 289, 347] 199 _ _ _ _ _
set_option maxHeartbeats 4000000 in
set_option maxRecDepth 100000 in
theorem E_L_stir_77 (r : zE) (h : zH) (l0 : Nat) (l1 : Nat) (l2 : Nat) (l3 : Int32) (l4 : Int32) (l5 : Int32) (l6 : Int32) (l7 : Int32) (l8 : Int32) (s0 : Int32) (s1 : Int32) (s2 : Nat) : zev r i_L_stir 77 [some (.ref l0), some (.ref l1), some (.ref l2), some (.int l3), some (.int l4), some (.int l5), some (.int l6), some (.int l7), some (.int l8), none] [.int s0, .int s1, .ref s2] h =
    ((zsI r h s2 s1 s0).bind fun h1 =>
    if zob r h1 l0 5 = true then
    (zcI (zev r i_X5_hang 0 [some (.ref l0), some (.int l4), some (.int l6)] [] h1) fun v1 h2 =>
    if l8 = 0 then
      zev r i_L_stir 98 [some (.ref l0), some (.ref l1), some (.ref l2), some (.int l3), some (.int l4), some (.int l5), some (.int l6), some (.int l7), some (.int l8), none] [.int (-4 : Int32), .int v1] h2
    else
      zev r i_L_stir 98 [some (.ref l0), some (.ref l1), some (.ref l2), some (.int l3), some (.int l4), some (.int l5), some (.int l6), some (.int l7), some (.int l8), none] [.int l6, .int v1] h2)
    else none) := zblk r [58, 77, 98, 108, 143, 170, 188, 224, 234, 279, 289, 347] 199 _ _ _ _ _
set_option maxHeartbeats 4000000 in
set_option maxRecDepth 100000 in
theorem E_L_stir_143 (r : zE) (h : zH) (l0 : Nat) (l1 : Nat) (l2 : Nat) (l3 : Int32) (l4 : Int32) (l5 : Int32) (l6 : Int32) (l7 : Int32) (s0 : Int32) : zev r i_L_stir 143 [some (.ref l0), some (.ref l1), some (.ref l2), some (.int l3), some (.int l4), some (.int l5), some (.int l6), some (.int l7), none, none] [.int s0] h =
    ((zaI r h l2 l4).bind fun v1 =>
    if s0 = 0 then
      (zaI r h l2 l4).bind fun v2 =>
      zev r i_L_stir 170 [some (.ref l0), some (.ref l1), some (.ref l2), some (.int l3), some (.int l4), some (.int l5), some (.int l6), some (.int l7), some (.int s0), some (.int v1)] [.int v2, .int l4, .ref l2] h
    else
      (zaI r h l2 l5).bind fun v3 =>
      zev r i_L_stir 170 [some (.ref l0), some (.ref l1), some (.ref l2), some (.int l3), some (.int l4), some (.int l5), some (.int l6), some (.int l7), some (.int s0), some (.int v1)] [.int v3, .int l4, .ref l2] h) := zblk r [58, 77, 98, 108, 143, 170, 188, 224, 234, 279, 289, 347] 199 _ _ _ _ _
set_option maxHeartbeats 4000000 in
set_option maxRecDepth 100000 in
theorem E_L_stir_234 (r : zE) (h : zH) (l0 : Nat) (l1 : Nat) (l2 : Nat) (l3 : Int32) (l4 : Int32) (l5 : Int32) (l6 : Int32) (l7 : Int32) : zev r i_L_stir 234 [some (.ref l0), some (.ref l1), some (.ref l2), some (.int l3), some (.int l4), some (.int l5), some (.int l6), some (.int l7), none, none] [] h =
    (if ((l3 >>> ((11 : Int32) &&& 31)) &&& (7 : Int32)) = 0 then
      (zaI r h l2 l5).bind fun v1 =>
      (zsI r h l2 l5 (-9 : Int32)).bind fun h1 =>
      if l7 = 0 then
        zev r i_L_stir 289 [some (.ref l0), some (.ref l1), some (.ref l2), some (.int l3), some (.int l4), some (.int l5), some (.int l6), some (.int (0 : Int32)), some (.int v1), none] [] h1
      else
        if zob r h1 l0 5 = true then
        (zcI (zev r i_X5_down 0 [some (.ref l0), some (.int l5), none] [] h1) fun v2 h2 =>
        if v1 < 0 then
          zev r i_L_stir 279 [some (.ref l0), some (.ref l1), some (.ref l2), some (.int l3), some (.int l4), some (.int l5), some (.int l6), some (.int l7), some (.int v1), none] [.int (-4 : Int32), .int v2] h2
        else
          zev r i_L_stir 279 [some (.ref l0), some (.ref l1), some (.ref l2), some (.int l3), some (.int l4), some (.int l5), some (.int l6), some (.int l7), some (.int v1), none] [.int v1, .int v2] h2)
        else none
    else
      zev r i_L_stir 289 [some (.ref l0), some (.ref l1), some (.ref l2), some (.int l3), some (.int l4), some (.int l5), some (.int l6), some (.int l7), none, none] [] h) := zblk r [58, 77, 98, 108, 143, 170, 188, 224, 234, 279, 289, 347] 199 _ _ _ _ _
set_option maxHeartbeats 4000000 in
set_option maxRecDepth 100000 in
theorem E_L_stir_98 (r : zE) (h : zH) (l0 : Nat) (l1 : Nat) (l2 : Nat) (l3 : Int32) (l4 : Int32) (l5 : Int32) (l6 : Int32) (l7 : Int32) (l8 : Int32) (s0 : Int32) (s1 : Int32) : zev r i_L_stir 98 [some (.ref l0), some (.ref l1), some (.ref l2), some (.int l3), some (.int l4), some (.int l5), some (.int l6), some (.int l7), some (.int l8), none] [.int s0, .int s1] h =
    (if s1 = s0 then
      zev r i_L_stir 108 [some (.ref l0), some (.ref l1), some (.ref l2), some (.int l3), some (.int l4), some (.int l5), some (.int l6), some (.int (1 : Int32)), some (.int l8), none] [] h
    else
      zev r i_L_stir 108 [some (.ref l0), some (.ref l1), some (.ref l2), some (.int l3), some (.int l4), some (.int l5), some (.int l6), some (.int (0 : Int32)), some (.int l8), none] [] h) := zblk r [58, 77, 98, 108, 143, 170, 188, 224, 234, 279, 289, 347] 199 _ _ _ _ _
set_option maxHeartbeats 4000000 in
set_option maxRecDepth 100000 in
theorem E_L_stir_170 (r : zE) (h : zH) (l0 : Nat) (l1 : Nat) (l2 : Nat) (l3 : Int32) (l4 : Int32) (l5 : Int32) (l6 : Int32) (l7 : Int32) (l8 : Int32) (l9 : Int32) (s0 : Int32) (s1 : Int32) (s2 : Nat) : zev r i_L_stir 170 [some (.ref l0), some (.ref l1), some (.ref l2), some (.int l3), some (.int l4), some (.int l5), some (.int l6), some (.int l7), some (.int l8), some (.int l9)] [.int s0, .int s1, .ref s2] h =
    ((zsI r h s2 s1 s0).bind fun h1 =>
    if l8 = 0 then
      (zaI r h1 l2 l5).bind fun v1 =>
      zev r i_L_stir 188 [some (.ref l0), some (.ref l1), some (.ref l2), some (.int l3), some (.int l4), some (.int l5), some (.int l6), some (.int l7), some (.int l8), some (.int l9)] [.int v1, .int l5, .ref l2] h1
    else
      zev r i_L_stir 188 [some (.ref l0), some (.ref l1), some (.ref l2), some (.int l3), some (.int l4), some (.int l5), some (.int l6), some (.int l7), some (.int l8), some (.int l9)] [.int l9, .int l5, .ref l2] h1) := zblk r [58, 77, 98, 108, 143, 170, 188, 224, 234, 279, 289, 347] 199 _ _ _ _ _
set_option maxHeartbeats 4000000 in
set_option maxRecDepth 100000 in
theorem E_L_stir_279 (r : zE) (h : zH) (l0 : Nat) (l1 : Nat) (l2 : Nat) (l3 : Int32) (l4 : Int32) (l5 : Int32) (l6 : Int32) (l7 : Int32) (l8 : Int32) (s0 : Int32) (s1 : Int32) : zev r i_L_stir 279 [some (.ref l0), some (.ref l1), some (.ref l2), some (.int l3), some (.int l4), some (.int l5), some (.int l6), some (.int l7), some (.int l8), none] [.int s0, .int s1] h =
    (if s1 = s0 then
      zev r i_L_stir 289 [some (.ref l0), some (.ref l1), some (.ref l2), some (.int l3), some (.int l4), some (.int l5), some (.int l6), some (.int (1 : Int32)), some (.int l8), none] [] h
    else
      zev r i_L_stir 289 [some (.ref l0), some (.ref l1), some (.ref l2), some (.int l3), some (.int l4), some (.int l5), some (.int l6), some (.int (0 : Int32)), some (.int l8), none] [] h) := zblk r [58, 77, 98, 108, 143, 170, 188, 224, 234, 279, 289, 347] 199 _ _ _ _ _
set_option maxHeartbeats 4000000 in
set_option maxRecDepth 100000 in
theorem E_L_stir_289 (r : zE) (h : zH) (l0 : Nat) (l1 : Nat) (l2 : Nat) (l3 : Int32) (l4 : Int32) (l5 : Int32) (l6 : Int32) (l7 : Int32) (l8 : Int32) : zev r i_L_stir 289 [some (.ref l0), some (.ref l1), some (.ref l2), some (.int l3), some (.int l4), some (.int l5), some (.int l6), some (.int l7), some (.int l8), none] [] h =
    (zcI (zev r i_L_low 0 [some (.int (l3 >>> ((14 : Int32) &&& 31))), some (.int (9 : Int32))] [] h) fun v1 h1 =>
    (zaI r h1 l2 ((6 : Int32) + l5)).bind fun v2 =>
    (zsI r h1 l2 ((6 : Int32) + l5) ((1 : Int32) + v1)).bind fun h2 =>
    if l7 = 0 then
      some (some (.int (0 : Int32)), h2)
    else
      if zob r h2 l0 5 = true then
      (zcI (zev r i_X5_line 0 [some (.ref l0), some (.int l5), some (.int ((1 : Int32) + v1)), none] [] h2) fun v3 h3 =>
      if v2 = ((1 : Int32) + v1) then
        zev r i_L_stir 347 [some (.ref l0), some (.ref l1), some (.ref l2), some (.int l3), some (.int l4), some (.int l5), some (.int l6), some (.int l7), some (.int ((1 : Int32) + v1)), some (.int v2)] [.int (-4 : Int32), .int v3] h3
      else
        zev r i_L_stir 347 [some (.ref l0), some (.ref l1), some (.ref l2), some (.int l3), some (.int l4), some (.int l5), some (.int l6), some (.int l7), some (.int ((1 : Int32) + v1)), some (.int v2)] [.int v2, .int v3] h3)
      else none) := zblk r [58, 77, 98, 108, 143, 170, 188, 224, 234, 279, 289, 347] 199 _ _ _ _ _
set_option maxHeartbeats 4000000 in
set_option maxRecDepth 100000 in
theorem E_L_stir_289_1 (r : zE) (h : zH) (l0 : Nat) (l1 : Nat) (l2 : Nat) (l3 : Int32) (l4 : Int32) (l5 : Int32) (l6 : Int32) (l7 : Int32) : zev r i_L_stir 289 [some (.ref l0), some (.ref l1), some (.ref l2), some (.int l3), some (.int l4), some (.int l5), some (.int l6), some (.int l7), none, none] [] h =
    (zcI (zev r i_L_low 0 [some (.int (l3 >>> ((14 : Int32) &&& 31))), some (.int (9 : Int32))] [] h) fun v1 h1 =>
    (zaI r h1 l2 ((6 : Int32) + l5)).bind fun v2 =>
    (zsI r h1 l2 ((6 : Int32) + l5) ((1 : Int32) + v1)).bind fun h2 =>
    if l7 = 0 then
      some (some (.int (0 : Int32)), h2)
    else
      if zob r h2 l0 5 = true then
      (zcI (zev r i_X5_line 0 [some (.ref l0), some (.int l5), some (.int ((1 : Int32) + v1)), none] [] h2) fun v3 h3 =>
      if v2 = ((1 : Int32) + v1) then
        zev r i_L_stir 347 [some (.ref l0), some (.ref l1), some (.ref l2), some (.int l3), some (.int l4), some (.int l5), some (.int l6), some (.int l7), some (.int ((1 : Int32) + v1)), some (.int v2)] [.int (-4 : Int32), .int v3] h3
      else
        zev r i_L_stir 347 [some (.ref l0), some (.ref l1), some (.ref l2), some (.int l3), some (.int l4), some (.int l5), some (.int l6), some (.int l7), some (.int ((1 : Int32) + v1)), some (.int v2)] [.int v2, .int v3] h3)
      else none) := zblk r [58, 77, 98, 108, 143, 170, 188, 224, 234, 279, 289, 347] 199 _ _ _ _ _
set_option maxHeartbeats 4000000 in
set_option maxRecDepth 100000 in
theorem E_L_stir_108a (r : zE) (h : zH) (l0 : Nat) (l1 : Nat) (l2 : Nat) (l3 : Int32) (l4 : Int32) (l5 : Int32) (l6 : Int32) (l7 : Int32) (l8 : Int32) : zev r i_L_stir 108 [some (.ref l0), some (.ref l1), some (.ref l2), some (.int l3), some (.int l4), some (.int l5), some (.int l6), some (.int l7), some (.int l8), none] [] h =
    (if ((l3 >>> ((10 : Int32) &&& 31)) &&& (1 : Int32)) = 0 then
      if l4 = l5 then
        zev r i_L_stir 143 [some (.ref l0), some (.ref l1), some (.ref l2), some (.int l3), some (.int l4), some (.int l5), some (.int l6), some (.int l7), some (.int l8), none] [.int (0 : Int32)] h
      else
        (zaI r h l2 l4).bind fun v1 =>
        if v1 < 0 then
          (zaI r h l2 l5).bind fun v2 =>
          if v2 < 0 then
            zev r i_L_stir 143 [some (.ref l0), some (.ref l1), some (.ref l2), some (.int l3), some (.int l4), some (.int l5), some (.int l6), some (.int l7), some (.int l8), none] [.int (0 : Int32)] h
          else
            zev r i_L_stir 143 [some (.ref l0), some (.ref l1), some (.ref l2), some (.int l3), some (.int l4), some (.int l5), some (.int l6), some (.int l7), some (.int l8), none] [.int (1 : Int32)] h
        else
          zev r i_L_stir 143 [some (.ref l0), some (.ref l1), some (.ref l2), some (.int l3), some (.int l4), some (.int l5), some (.int l6), some (.int l7), some (.int l8), none] [.int (1 : Int32)] h
    else
      zev r i_L_stir 234 [some (.ref l0), some (.ref l1), some (.ref l2), some (.int l3), some (.int l4), some (.int l5), some (.int l6), some (.int l7), some (.int l8), none] [] h) := zblk r [58, 77, 98, 108, 143, 170, 188, 224, 234, 279, 289, 347] 199 _ _ _ _ _
set_option maxHeartbeats 4000000 in
set_option maxRecDepth 100000 in
theorem E_L_stir_188 (r : zE) (h : zH) (l0 : Nat) (l1 : Nat) (l2 : Nat) (l3 : Int32) (l4 : Int32) (l5 : Int32) (l6 : Int32) (l7 : Int32) (l8 : Int32) (l9 : Int32) (s0 : Int32) (s1 : Int32) (s2 : Nat) : zev r i_L_stir 188 [some (.ref l0), some (.ref l1), some (.ref l2), some (.int l3), some (.int l4), some (.int l5), some (.int l6), some (.int l7), some (.int l8), some (.int l9)] [.int s0, .int s1, .ref s2] h =
    ((zsI r h s2 s1 s0).bind fun h1 =>
    if l7 = 0 then
      zev r i_L_stir 234 [some (.ref l0), some (.ref l1), some (.ref l2), some (.int l3), some (.int l4), some (.int l5), some (.int l6), some (.int (0 : Int32)), some (.int l8), some (.int l9)] [] h1
    else
      if zob r h1 l0 5 = true then
      (zcI (zev r i_X5_change 0 [some (.ref l0), some (.int l4), some (.int l5)] [] h1) fun v1 h2 =>
      if l4 = l5 then
        zev r i_L_stir 224 [some (.ref l0), some (.ref l1), some (.ref l2), some (.int l3), some (.int l4), some (.int l5), some (.int l6), some (.int l7), some (.int l8), some (.int l9)] [.int (-1 : Int32), .int v1] h2
      else
        if l8 = 0 then
          zev r i_L_stir 224 [some (.ref l0), some (.ref l1), some (.ref l2), some (.int l3), some (.int l4), some (.int l5), some (.int l6), some (.int l7), some (.int l8), some (.int l9)] [.int (-4 : Int32), .int v1] h2
        else
          zev r i_L_stir 224 [some (.ref l0), some (.ref l1), some (.ref l2), some (.int l3), some (.int l4), some (.int l5), some (.int l6), some (.int l7), some (.int l8), some (.int l9)] [.int (1 : Int32), .int v1] h2)
      else none) := zblk r [58, 77, 98, 108, 143, 170, 188, 224, 234, 279, 289, 347] 199 _ _ _ _ _
set_option maxHeartbeats 4000000 in
set_option maxRecDepth 100000 in
theorem E_L_stir_347 (r : zE) (h : zH) (l0 : Nat) (l1 : Nat) (l2 : Nat) (l3 : Int32) (l4 : Int32) (l5 : Int32) (l6 : Int32) (l7 : Int32) (l8 : Int32) (l9 : Int32) (s0 : Int32) (s1 : Int32) : zev r i_L_stir 347 [some (.ref l0), some (.ref l1), some (.ref l2), some (.int l3), some (.int l4), some (.int l5), some (.int l6), some (.int l7), some (.int l8), some (.int l9)] [.int s0, .int s1] h =
    (if s1 = s0 then
      some (some (.int (1 : Int32)), h)
    else
      some (some (.int (0 : Int32)), h)) := zblk r [58, 77, 98, 108, 143, 170, 188, 224, 234, 279, 289, 347] 199 _ _ _ _ _
set_option maxHeartbeats 4000000 in
set_option maxRecDepth 100000 in
theorem E_L_stir_143a (r : zE) (h : zH) (l0 : Nat) (l1 : Nat) (l2 : Nat) (l3 : Int32) (l4 : Int32) (l5 : Int32) (l6 : Int32) (l7 : Int32) (l8 : Int32) (s0 : Int32) : zev r i_L_stir 143 [some (.ref l0), some (.ref l1), some (.ref l2), some (.int l3), some (.int l4), some (.int l5), some (.int l6), some (.int l7), some (.int l8), none] [.int s0] h =
    ((zaI r h l2 l4).bind fun v1 =>
    if s0 = 0 then
      (zaI r h l2 l4).bind fun v2 =>
      zev r i_L_stir 170 [some (.ref l0), some (.ref l1), some (.ref l2), some (.int l3), some (.int l4), some (.int l5), some (.int l6), some (.int l7), some (.int s0), some (.int v1)] [.int v2, .int l4, .ref l2] h
    else
      (zaI r h l2 l5).bind fun v3 =>
      zev r i_L_stir 170 [some (.ref l0), some (.ref l1), some (.ref l2), some (.int l3), some (.int l4), some (.int l5), some (.int l6), some (.int l7), some (.int s0), some (.int v1)] [.int v3, .int l4, .ref l2] h) := zblk r [58, 77, 98, 108, 143, 170, 188, 224, 234, 279, 289, 347] 199 _ _ _ _ _
set_option maxHeartbeats 4000000 in
set_option maxRecDepth 100000 in
theorem E_L_stir_234a (r : zE) (h : zH) (l0 : Nat) (l1 : Nat) (l2 : Nat) (l3 : Int32) (l4 : Int32) (l5 : Int32) (l6 : Int32) (l7 : Int32) (l8 : Int32) : zev r i_L_stir 234 [some (.ref l0), some (.ref l1), some (.ref l2), some (.int l3), some (.int l4), some (.int l5), some (.int l6), some (.int l7), some (.int l8), none] [] h =
    (if ((l3 >>> ((11 : Int32) &&& 31)) &&& (7 : Int32)) = 0 then
      (zaI r h l2 l5).bind fun v1 =>
      (zsI r h l2 l5 (-9 : Int32)).bind fun h1 =>
      if l7 = 0 then
        zev r i_L_stir 289 [some (.ref l0), some (.ref l1), some (.ref l2), some (.int l3), some (.int l4), some (.int l5), some (.int l6), some (.int (0 : Int32)), some (.int v1), none] [] h1
      else
        if zob r h1 l0 5 = true then
        (zcI (zev r i_X5_down 0 [some (.ref l0), some (.int l5), none] [] h1) fun v2 h2 =>
        if v1 < 0 then
          zev r i_L_stir 279 [some (.ref l0), some (.ref l1), some (.ref l2), some (.int l3), some (.int l4), some (.int l5), some (.int l6), some (.int l7), some (.int v1), none] [.int (-4 : Int32), .int v2] h2
        else
          zev r i_L_stir 279 [some (.ref l0), some (.ref l1), some (.ref l2), some (.int l3), some (.int l4), some (.int l5), some (.int l6), some (.int l7), some (.int v1), none] [.int v1, .int v2] h2)
        else none
    else
      zev r i_L_stir 289 [some (.ref l0), some (.ref l1), some (.ref l2), some (.int l3), some (.int l4), some (.int l5), some (.int l6), some (.int l7), some (.int l8), none] [] h) := zblk r [58, 77, 98, 108, 143, 170, 188, 224, 234, 279, 289, 347] 199 _ _ _ _ _
set_option maxHeartbeats 4000000 in
set_option maxRecDepth 100000 in
theorem E_L_stir_224 (r : zE) (h : zH) (l0 : Nat) (l1 : Nat) (l2 : Nat) (l3 : Int32) (l4 : Int32) (l5 : Int32) (l6 : Int32) (l7 : Int32) (l8 : Int32) (l9 : Int32) (s0 : Int32) (s1 : Int32) : zev r i_L_stir 224 [some (.ref l0), some (.ref l1), some (.ref l2), some (.int l3), some (.int l4), some (.int l5), some (.int l6), some (.int l7), some (.int l8), some (.int l9)] [.int s0, .int s1] h =
    (if s1 = s0 then
      zev r i_L_stir 234 [some (.ref l0), some (.ref l1), some (.ref l2), some (.int l3), some (.int l4), some (.int l5), some (.int l6), some (.int (1 : Int32)), some (.int l8), some (.int l9)] [] h
    else
      zev r i_L_stir 234 [some (.ref l0), some (.ref l1), some (.ref l2), some (.int l3), some (.int l4), some (.int l5), some (.int l6), some (.int (0 : Int32)), some (.int l8), some (.int l9)] [] h) := zblk r [58, 77, 98, 108, 143, 170, 188, 224, 234, 279, 289, 347] 199 _ _ _ _ _
set_option maxHeartbeats 4000000 in
set_option maxRecDepth 100000 in
theorem E_L_stir_234aa (r : zE) (h : zH) (l0 : Nat) (l1 : Nat) (l2 : Nat) (l3 : Int32) (l4 : Int32) (l5 : Int32) (l6 : Int32) (l7 : Int32) (l8 : Int32) (l9 : Int32) : zev r i_L_stir 234 [some (.ref l0), some (.ref l1), some (.ref l2), some (.int l3), some (.int l4), some (.int l5), some (.int l6), some (.int l7), some (.int l8), some (.int l9)] [] h =
    (if ((l3 >>> ((11 : Int32) &&& 31)) &&& (7 : Int32)) = 0 then
      (zaI r h l2 l5).bind fun v1 =>
      (zsI r h l2 l5 (-9 : Int32)).bind fun h1 =>
      if l7 = 0 then
        zev r i_L_stir 289 [some (.ref l0), some (.ref l1), some (.ref l2), some (.int l3), some (.int l4), some (.int l5), some (.int l6), some (.int (0 : Int32)), some (.int v1), some (.int l9)] [] h1
      else
        if zob r h1 l0 5 = true then
        (zcI (zev r i_X5_down 0 [some (.ref l0), some (.int l5), none] [] h1) fun v2 h2 =>
        if v1 < 0 then
          zev r i_L_stir 279 [some (.ref l0), some (.ref l1), some (.ref l2), some (.int l3), some (.int l4), some (.int l5), some (.int l6), some (.int l7), some (.int v1), some (.int l9)] [.int (-4 : Int32), .int v2] h2
        else
          zev r i_L_stir 279 [some (.ref l0), some (.ref l1), some (.ref l2), some (.int l3), some (.int l4), some (.int l5), some (.int l6), some (.int l7), some (.int v1), some (.int l9)] [.int v1, .int v2] h2)
        else none
    else
      zev r i_L_stir 289 [some (.ref l0), some (.ref l1), some (.ref l2), some (.int l3), some (.int l4), some (.int l5), some (.int l6), some (.int l7), some (.int l8), some (.int l9)] [] h) := zblk r [58, 77, 98, 108, 143, 170, 188, 224, 234, 279, 289, 347] 199 _ _ _ _ _
set_option maxHeartbeats 4000000 in
set_option maxRecDepth 100000 in
theorem E_L_stir_279a (r : zE) (h : zH) (l0 : Nat) (l1 : Nat) (l2 : Nat) (l3 : Int32) (l4 : Int32) (l5 : Int32) (l6 : Int32) (l7 : Int32) (l8 : Int32) (l9 : Int32) (s0 : Int32) (s1 : Int32) : zev r i_L_stir 279 [some (.ref l0), some (.ref l1), some (.ref l2), some (.int l3), some (.int l4), some (.int l5), some (.int l6), some (.int l7), some (.int l8), some (.int l9)] [.int s0, .int s1] h =
    (if s1 = s0 then
      zev r i_L_stir 289 [some (.ref l0), some (.ref l1), some (.ref l2), some (.int l3), some (.int l4), some (.int l5), some (.int l6), some (.int (1 : Int32)), some (.int l8), some (.int l9)] [] h
    else
      zev r i_L_stir 289 [some (.ref l0), some (.ref l1), some (.ref l2), some (.int l3), some (.int l4), some (.int l5), some (.int l6), some (.int (0 : Int32)), some (.int l8), some (.int l9)] [] h) := zblk r [58, 77, 98, 108, 143, 170, 188, 224, 234, 279, 289, 347] 199 _ _ _ _ _
set_option maxHeartbeats 4000000 in
set_option maxRecDepth 100000 in
theorem E_L_stir_289a (r : zE) (h : zH) (l0 : Nat) (l1 : Nat) (l2 : Nat) (l3 : Int32) (l4 : Int32) (l5 : Int32) (l6 : Int32) (l7 : Int32) (l8 : Int32) (l9 : Int32) : zev r i_L_stir 289 [some (.ref l0), some (.ref l1), some (.ref l2), some (.int l3), some (.int l4), some (.int l5), some (.int l6), some (.int l7), some (.int l8), some (.int l9)] [] h =
    (zcI (zev r i_L_low 0 [some (.int (l3 >>> ((14 : Int32) &&& 31))), some (.int (9 : Int32))] [] h) fun v1 h1 =>
    (zaI r h1 l2 ((6 : Int32) + l5)).bind fun v2 =>
    (zsI r h1 l2 ((6 : Int32) + l5) ((1 : Int32) + v1)).bind fun h2 =>
    if l7 = 0 then
      some (some (.int (0 : Int32)), h2)
    else
      if zob r h2 l0 5 = true then
      (zcI (zev r i_X5_line 0 [some (.ref l0), some (.int l5), some (.int ((1 : Int32) + v1)), none] [] h2) fun v3 h3 =>
      if v2 = ((1 : Int32) + v1) then
        zev r i_L_stir 347 [some (.ref l0), some (.ref l1), some (.ref l2), some (.int l3), some (.int l4), some (.int l5), some (.int l6), some (.int l7), some (.int ((1 : Int32) + v1)), some (.int v2)] [.int (-4 : Int32), .int v3] h3
      else
        zev r i_L_stir 347 [some (.ref l0), some (.ref l1), some (.ref l2), some (.int l3), some (.int l4), some (.int l5), some (.int l6), some (.int l7), some (.int ((1 : Int32) + v1)), some (.int v2)] [.int v2, .int v3] h3)
      else none) := zblk r [58, 77, 98, 108, 143, 170, 188, 224, 234, 279, 289, 347] 199 _ _ _ _ _
set_option maxHeartbeats 4000000 in
set_option maxRecDepth 100000 in
theorem E_L_told_0 (r : zE) (h : zH) (a1 : Nat) (i2 : Int32) (i3 : Int32) : zev r i_L_told 0 [some (.ref a1), some (.int i2), some (.int i3)] [] h =
    (if zob r h a1 5 = true then
    (zcI (zev r i_X5_man 0 [some (.ref a1), some (.int i2), some (.int i3)] [] h) fun v1 h1 =>
    if v1 = (1 : Int32) then
      if zob r h1 a1 5 = true then
      (zcI (zev r i_X5_asked 0 [some (.ref a1)] [] h1) fun v2 h2 =>
      some (some (.int v2), h2))
      else none
    else
      some (some (.int (-99 : Int32)), h1))
    else none) := zblk r [] 14 _ _ _ _ _
