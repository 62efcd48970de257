/-! stretches of code as equations (printed by wip/p48/gen20.py) -/
set_option maxHeartbeats 4000000 in
set_option maxRecDepth 100000 in
theorem E_L_law_0 (r : zE) (h : zH) (a1 : Nat) : zev r i_L_law 0 [some (.ref a1), none, none, none, none, none, none, none, none, none, none, none, none, none, none, none, none, none, none, none, none, none, none, none, none, none, none, none, none] [] h =
    (zcV (zev r i_X5_init 0 [some (.ref (r.1 + h.length)), none] [] (h ++ [.inr (.inr (5, [.null, .null, .null, .null, .null, .null, .null, .int 0, .long 0, .long 0, .int 0, .null]))] : zH)) fun h1 =>
    zcI (zev r i_L_deck 0 [some (.ref (r.1 + h.length)), some (.ref a1), some (.ref (r.1 + h1.length)), some (.ref (r.1 + (h1 ++ [.inl (27, fun _ => 0)] : zH).length)), none, none, none, none] [] (h1 ++ [.inl (27, fun _ => 0)] ++ [.inl (18, fun _ => 0)] : zH)) fun v1 h2 =>
    if v1 = 0 then
      some (some (.int (0 : Int32)), h2)
    else
      (zaI r h2 (r.1 + h1.length) (1 : Int32)).bind fun v2 =>
      if zob r h2 (r.1 + h.length) 5 = true then
      (zcL (zev r i_X5_digest 0 [some (.ref (r.1 + h.length)), none, none, none, none] [] h2) fun v3 h3 =>
      if zob r h3 (r.1 + h.length) 5 = true then
      (zcI (zev r i_X5_keep 0 [some (.ref (r.1 + h.length)), some (.int (0 : Int32))] [] h3) fun v4 h4 =>
      if v4 = 0 then
        zev r i_L_law 54 [some (.ref a1), some (.ref (r.1 + h.length)), some (.ref (r.1 + h1.length)), some (.ref (r.1 + (h1 ++ [.inl (27, fun _ => 0)] : zH).length)), some (.int v2), some (.long v3), none, some (.int (0 : Int32)), none, none, none, none, none, none, none, none, none, none, none, none, none, none, none, none, none, none, none, none, none] [] h4
      else
        some (some (.int (0 : Int32)), h4))
      else none)
      else none) := zblk r [54, 90, 118, 202, 220, 295, 341, 371, 435, 471, 512, 588, 677, 760, 816, 864, 877, 941, 1001, 1032, 1068, 1126, 1150, 1381, 1521, 1558, 1584, 1628, 1685, 1830, 2021] 1087 _ _ _ _ _
set_option maxHeartbeats 4000000 in
set_option maxRecDepth 100000 in
theorem E_L_law_54 (r : zE) (h : zH) (l0 : Nat) (l1 : Nat) (l2 : Nat) (l3 : Nat) (l4 : Int32) (l5 : Int64) (l7 : Int32) : zev r i_L_law 54 [some (.ref l0), some (.ref l1), some (.ref l2), some (.ref l3), some (.int l4), some (.long l5), none, some (.int l7), none, none, none, none, none, none, none, none, none, none, none, none, none, none, none, none, none, none, none, none, none] [] h =
    (if l7 < (3 : Int32) then
      zcI (zev r i_L_cell 0 [some (.ref l0), some (.int ((7 : Int32) + l7))] [] h) fun v1 h1 =>
      zcI (zev r i_L_stir 0 [some (.ref l1), some (.ref l2), some (.ref l3), some (.int v1), none, none, none, none, none, none] [] h1) fun v2 h2 =>
      if v2 = 0 then
        some (some (.int (0 : Int32)), h2)
      else
        zev r i_L_law 90 [some (.ref l0), some (.ref l1), some (.ref l2), some (.ref l3), some (.int l4), some (.long l5), none, some (.int l7), some (.int v1), some (.int (0 : Int32)), some (.int (0 : Int32)), none, none, none, none, none, none, none, none, none, none, none, none, none, none, none, none, none, none] [] h2
    else
      if zob r h l1 5 = true then
      (zcI (zev r i_X5_count 0 [some (.ref l1), some (.int (2 : Int32))] [] h) fun v3 h3 =>
      if zob r h3 l1 5 = true then
      (zcI (zev r i_X5_keep 0 [some (.ref l1), some (.int (1 : Int32))] [] h3) fun v4 h4 =>
      if v4 = v3 then
        if zob r h4 l1 5 = true then
        (zcI (zev r i_X5_on 0 [some (.ref l1), some (.int (0 : Int32))] [] h4) fun v5 h5 =>
        if v5 = 0 then
          if zob r h5 l1 5 = true then
          (zcI (zev r i_X5_count 0 [some (.ref l1), some (.int (3 : Int32))] [] h5) fun v6 h6 =>
          if v6 = l4 then
            if zob r h6 l1 5 = true then
            (zcI (zev r i_X5_on 0 [some (.ref l1), some (.int (1 : Int32))] [] h6) fun v7 h7 =>
            if v7 = v3 then
              if zob r h7 l1 5 = true then
              (zcI (zev r i_X5_undo 0 [some (.ref l1), some (.int (0 : Int32)), none] [] h7) fun v8 h8 =>
              if v8 = v3 then
                if zob r h8 l1 5 = true then
                (zcI (zev r i_X5_count 0 [some (.ref l1), some (.int (4 : Int32))] [] h8) fun v9 h9 =>
                if v9 = 0 then
                  zev r i_L_law 2021 [some (.ref l0), some (.ref l1), some (.ref l2), some (.ref l3), some (.int l4), some (.long l5), none, some (.int v3), some (.int (1 : Int32)), none, none, none, none, none, none, none, none, none, none, none, none, none, none, none, none, none, none, none, none] [] h9
                else
                  some (some (.int (0 : Int32)), h9))
                else none
              else
                some (some (.int (0 : Int32)), h8))
              else none
            else
              some (some (.int (0 : Int32)), h7))
            else none
          else
            some (some (.int (0 : Int32)), h6))
          else none
        else
          some (some (.int (0 : Int32)), h5))
        else none
      else
        some (some (.int (0 : Int32)), h4))
      else none)
      else none) := zblk r [54, 90, 118, 202, 220, 295, 341, 371, 435, 471, 512, 588, 677, 760, 816, 864, 877, 941, 1001, 1032, 1068, 1126, 1150, 1381, 1521, 1558, 1584, 1628, 1685, 1830, 2021] 1087 _ _ _ _ _
set_option maxHeartbeats 4000000 in
set_option maxRecDepth 100000 in
theorem E_L_law_90 (r : zE) (h : zH) (l0 : Nat) (l1 : Nat) (l2 : Nat) (l3 : Nat) (l4 : Int32) (l5 : Int64) (l7 : Int32) (l8 : Int32) (l9 : Int32) (l10 : Int32) : zev r i_L_law 90 [some (.ref l0), some (.ref l1), some (.ref l2), some (.ref l3), some (.int l4), some (.long l5), none, some (.int l7), some (.int l8), some (.int l9), some (.int l10), none, none, none, none, none, none, none, none, none, none, none, none, none, none, none, none, none, none] [] h =
    ((zaI r h l2 (0 : Int32)).bind fun v1 =>
    if l10 < v1 then
      if zob r h l1 5 = true then
      (zcI (zev r i_X5_hook 0 [some (.ref l1), some (.int l10), some (.int (1 : Int32))] [] h) fun v2 h1 =>
      if v2 = (1 : Int32) then
        if zob r h1 l1 5 = true then
        (zcI (zev r i_X5_asked 0 [some (.ref l1)] [] h1) fun v3 h2 =>
        zev r i_L_law 118 [some (.ref l0), some (.ref l1), some (.ref l2), some (.ref l3), some (.int l4), some (.long l5), none, some (.int l7), some (.int l8), some (.int l9), some (.int l10), none, none, none, none, none, none, none, none, none, none, none, none, none, none, none, none, none, none] [.int v3] h2)
        else none
      else
        zev r i_L_law 118 [some (.ref l0), some (.ref l1), some (.ref l2), some (.ref l3), some (.int l4), some (.long l5), none, some (.int l7), some (.int l8), some (.int l9), some (.int l10), none, none, none, none, none, none, none, none, none, none, none, none, none, none, none, none, none, none] [.int (-99 : Int32)] h1)
      else none
    else
      if zob r h l1 5 = true then
      (zcI (zev r i_X5_count 0 [some (.ref l1), some (.int (2 : Int32))] [] h) fun v4 h3 =>
      if zob r h3 l1 5 = true then
      (zcL (zev r i_X5_digest 0 [some (.ref l1), none, none, none, none] [] h3) fun v5 h4 =>
      if zob r h4 l1 5 = true then
      (zcI (zev r i_X5_count 0 [some (.ref l1), some (.int (3 : Int32))] [] h4) fun v6 h5 =>
      if l9 = v6 then
        zev r i_L_law 202 [some (.ref l0), some (.ref l1), some (.ref l2), some (.ref l3), some (.int l4), some (.long l5), none, some (.int l7), some (.int l8), some (.int l9), some (.int v4), some (.long v5), none, some (.int (0 : Int32)), none, none, none, none, none, none, none, none, none, none, none, none, none, none, none] [] h5
      else
        some (some (.int (0 : Int32)), h5))
      else none)
      else none)
      else none) := zblk r [54, 90, 118, 202, 220, 295, 341, 371, 435, 471, 512, 588, 677, 760, 816, 864, 877, 941, 1001, 1032, 1068, 1126, 1150, 1381, 1521, 1558, 1584, 1628, 1685, 1830, 2021] 1087 _ _ _ _ _
set_option maxHeartbeats 4000000 in
set_option maxRecDepth 100000 in
theorem E_L_law_2021 (r : zE) (h : zH) (l0 : Nat) (l1 : Nat) (l2 : Nat) (l3 : Nat) (l4 : Int32) (l5 : Int64) (l7 : Int32) (l8 : Int32) : zev r i_L_law 2021 [some (.ref l0), some (.ref l1), some (.ref l2), some (.ref l3), some (.int l4), some (.long l5), none, some (.int l7), some (.int l8), none, none, none, none, none, none, none, none, none, none, none, none, none, none, none, none, none, none, none, none] [] h =
    (if l8 < (6 : Int32) then
      if zob r h l1 5 = true then
      (zcI (zev r i_X5_tear 0 [some (.ref l1), some (.int l8), none] [] h) fun v1 h1 =>
      if v1 = (1 : Int32) then
        zev r i_L_law 2021 [some (.ref l0), some (.ref l1), some (.ref l2), some (.ref l3), some (.int l4), some (.long l5), none, some (.int l7), some (.int (l8 + (1 : Int32))), none, none, none, none, none, none, none, none, none, none, none, none, none, none, none, none, none, none, none, none] [] h1
      else
        some (some (.int (0 : Int32)), h1))
      else none
    else
      if zob r h l1 5 = true then
      (zcI (zev r i_X5_deck 0 [some (.ref l1), some (.int (0 : Int32)), none, none, none] [] h) fun v2 h2 =>
      if v2 = l4 then
        if zob r h2 l1 5 = true then
        (zcL (zev r i_X5_digest 0 [some (.ref l1), none, none, none, none] [] h2) fun v3 h3 =>
        if (lg_cmp v3 l5) = 0 then
          some (some (.int (1 : Int32)), h3)
        else
          some (some (.int (0 : Int32)), h3))
        else none
      else
        some (some (.int (0 : Int32)), h2))
      else none) := zblk r [54, 90, 118, 202, 220, 295, 341, 371, 435, 471, 512, 588, 677, 760, 816, 864, 877, 941, 1001, 1032, 1068, 1126, 1150, 1381, 1521, 1558, 1584, 1628, 1685, 1830, 2021] 1087 _ _ _ _ _
set_option maxHeartbeats 4000000 in
set_option maxRecDepth 100000 in
theorem E_L_law_118 (r : zE) (h : zH) (l0 : Nat) (l1 : Nat) (l2 : Nat) (l3 : Nat) (l4 : Int32) (l5 : Int64) (l7 : Int32) (l8 : Int32) (l9 : Int32) (l10 : Int32) (s0 : Int32) : zev r i_L_law 118 [some (.ref l0), some (.ref l1), some (.ref l2), some (.ref l3), some (.int l4), some (.long l5), none, some (.int l7), some (.int l8), some (.int l9), some (.int l10), none, none, none, none, none, none, none, none, none, none, none, none, none, none, none, none, none, none] [.int s0] h =
    (if s0 = (-9 : Int32) then
      if s0 < 0 then
        zev r i_L_law 90 [some (.ref l0), some (.ref l1), some (.ref l2), some (.ref l3), some (.int l4), some (.long l5), none, some (.int l7), some (.int l8), some (.int (l9 + (0 : Int32))), some (.int (l10 + (1 : Int32))), none, none, none, none, none, none, none, none, none, none, none, none, none, none, none, none, none, none] [] h
      else
        zev r i_L_law 90 [some (.ref l0), some (.ref l1), some (.ref l2), some (.ref l3), some (.int l4), some (.long l5), none, some (.int l7), some (.int l8), some (.int (l9 + (1 : Int32))), some (.int (l10 + (1 : Int32))), none, none, none, none, none, none, none, none, none, none, none, none, none, none, none, none, none, none] [] h
    else
      if s0 < 0 then
        some (some (.int (0 : Int32)), h)
      else
        if s0 < l4 then
          zcI (zev r i_L_told 0 [some (.ref l1), some (.int s0), some (.int (4 : Int32))] [] h) fun v1 h1 =>
          if v1 = l10 then
            if s0 < 0 then
              zev r i_L_law 90 [some (.ref l0), some (.ref l1), some (.ref l2), some (.ref l3), some (.int l4), some (.long l5), none, some (.int l7), some (.int l8), some (.int (l9 + (0 : Int32))), some (.int (l10 + (1 : Int32))), none, none, none, none, none, none, none, none, none, none, none, none, none, none, none, none, none, none] [] h1
            else
              zev r i_L_law 90 [some (.ref l0), some (.ref l1), some (.ref l2), some (.ref l3), some (.int l4), some (.long l5), none, some (.int l7), some (.int l8), some (.int (l9 + (1 : Int32))), some (.int (l10 + (1 : Int32))), none, none, none, none, none, none, none, none, none, none, none, none, none, none, none, none, none, none] [] h1
          else
            some (some (.int (0 : Int32)), h1)
        else
          some (some (.int (0 : Int32)), h)) := zblk r [54, 90, 118, 202, 220, 295, 341, 371, 435, 471, 512, 588, 677, 760, 816, 864, 877, 941, 1001, 1032, 1068, 1126, 1150, 1381, 1521, 1558, 1584, 1628, 1685, 1830, 2021] 1087 _ _ _ _ _
set_option maxHeartbeats 4000000 in
set_option maxRecDepth 100000 in
theorem E_L_law_202 (r : zE) (h : zH) (l0 : Nat) (l1 : Nat) (l2 : Nat) (l3 : Nat) (l4 : Int32) (l5 : Int64) (l7 : Int32) (l8 : Int32) (l9 : Int32) (l10 : Int32) (l11 : Int64) (l13 : Int32) : zev r i_L_law 202 [some (.ref l0), some (.ref l1), some (.ref l2), some (.ref l3), some (.int l4), some (.long l5), none, some (.int l7), some (.int l8), some (.int l9), some (.int l10), some (.long l11), none, some (.int l13), none, none, none, none, none, none, none, none, none, none, none, none, none, none, none] [] h =
    (if l13 < (3 : Int32) then
      zev r i_L_law 220 [some (.ref l0), some (.ref l1), some (.ref l2), some (.ref l3), some (.int l4), some (.long l5), none, some (.int l7), some (.int l8), some (.int l9), some (.int l10), some (.long l11), none, some (.int l13), some (.int (0 : Int32)), some (.int (-1 : Int32)), some (.int (0 : Int32)), some (.int (0 : Int32)), none, none, none, none, none, none, none, none, none, none, none] [] h
    else
      zcI (zev r i_L_low 0 [some (.int (l8 >>> ((8 : Int32) &&& 31))), some (.int (3 : Int32))] [] h) fun v1 h1 =>
      if zob r h1 l1 5 = true then
      (zcI (zev r i_X5_best 0 [some (.ref l1), some (.int v1), some (.int (1 : Int32))] [] h1) fun v2 h2 =>
      if zob r h2 l1 5 = true then
      (zcI (zev r i_X5_fair 0 [some (.ref l1), some (.int v1), some (.int (2 : Int32))] [] h2) fun v3 h3 =>
      if zob r h3 l1 5 = true then
      (zcI (zev r i_X5_mixed 0 [some (.ref l1), some (.int (3 : Int32))] [] h3) fun v4 h4 =>
      if v2 < 0 then
        some (some (.int (0 : Int32)), h4)
      else
        if zob r h4 l1 5 = true then
        (zcI (zev r i_X5_judge 0 [some (.ref l1), some (.int (1 : Int32)), some (.int v1), none] [] h4) fun v5 h5 =>
        if v5 = v2 then
          if zob r h5 l1 5 = true then
          (zcI (zev r i_X5_judge 0 [some (.ref l1), some (.int (2 : Int32)), some (.int v1), none] [] h5) fun v6 h6 =>
          if v6 < v2 then
            some (some (.int (0 : Int32)), h6)
          else
            if v3 < 0 then
              some (some (.int (0 : Int32)), h6)
            else
              if v2 < v3 then
                some (some (.int (0 : Int32)), h6)
              else
                if zob r h6 l1 5 = true then
                (zcI (zev r i_X5_judge 0 [some (.ref l1), some (.int (3 : Int32)), some (.int (1 : Int32)), none] [] h6) fun v7 h7 =>
                if zob r h7 l1 5 = true then
                (zcI (zev r i_X5_judge 0 [some (.ref l1), some (.int (3 : Int32)), some (.int (2 : Int32)), none] [] h7) fun v8 h8 =>
                if (v7 + v8) = v4 then
                  if l9 = l4 then
                    if zob r h8 l1 5 = true then
                    (zcI (zev r i_X5_all 0 [some (.ref l1), some (.int v1)] [] h8) fun v9 h9 =>
                    if v9 < v2 then
                      some (some (.int (0 : Int32)), h9)
                    else
                      if zob r h9 l1 5 = true then
                      (zcI (zev r i_X5_all 0 [some (.ref l1), some (.int (1 : Int32))] [] h9) fun v10 h10 =>
                      if zob r h10 l1 5 = true then
                      (zcI (zev r i_X5_all 0 [some (.ref l1), some (.int (2 : Int32))] [] h10) fun v11 h11 =>
                      if (v10 + v11) < v4 then
                        some (some (.int (0 : Int32)), h11)
                      else
                        zev r i_L_law 1381 [some (.ref l0), some (.ref l1), some (.ref l2), some (.ref l3), some (.int l4), some (.long l5), none, some (.int l7), some (.int l8), some (.int l9), some (.int l10), some (.long l11), none, some (.int v1), some (.int v2), some (.int v3), some (.int v4), none, none, none, none, none, none, none, none, none, none, none, none] [] h11)
                      else none)
                      else none)
                    else none
                  else
                    zev r i_L_law 1381 [some (.ref l0), some (.ref l1), some (.ref l2), some (.ref l3), some (.int l4), some (.long l5), none, some (.int l7), some (.int l8), some (.int l9), some (.int l10), some (.long l11), none, some (.int v1), some (.int v2), some (.int v3), some (.int v4), none, none, none, none, none, none, none, none, none, none, none, none] [] h8
                else
                  some (some (.int (0 : Int32)), h8))
                else none)
                else none)
          else none
        else
          some (some (.int (0 : Int32)), h5))
        else none)
      else none)
      else none)
      else none) := zblk r [54, 90, 118, 202, 220, 295, 341, 371, 435, 471, 512, 588, 677, 760, 816, 864, 877, 941, 1001, 1032, 1068, 1126, 1150, 1381, 1521, 1558, 1584, 1628, 1685, 1830, 2021] 1087 _ _ _ _ _
set_option maxHeartbeats 4000000 in
set_option maxRecDepth 100000 in
theorem E_L_law_220 (r : zE) (h : zH) (l0 : Nat) (l1 : Nat) (l2 : Nat) (l3 : Nat) (l4 : Int32) (l5 : Int64) (l7 : Int32) (l8 : Int32) (l9 : Int32) (l10 : Int32) (l11 : Int64) (l13 : Int32) (l14 : Int32) (l15 : Int32) (l16 : Int32) (l17 : Int32) : zev r i_L_law 220 [some (.ref l0), some (.ref l1), some (.ref l2), some (.ref l3), some (.int l4), some (.long l5), none, some (.int l7), some (.int l8), some (.int l9), some (.int l10), some (.long l11), none, some (.int l13), some (.int l14), some (.int l15), some (.int l16), some (.int l17), none, none, none, none, none, none, none, none, none, none, none] [] h =
    (if l17 < l4 then
      if zob r h l1 5 = true then
      (zcI (zev r i_X5_neighbours 0 [some (.ref l1), some (.int l17), some (.int l13)] [] h) fun v1 h1 =>
      if zob r h1 l1 5 = true then
      (zcI (zev r i_X5_woken 0 [some (.ref l1), some (.int l17), some (.int l13)] [] h1) fun v2 h2 =>
      zcI (zev r i_L_told 0 [some (.ref l1), some (.int l17), some (.int (4 : Int32))] [] h2) fun v3 h3 =>
      if v3 < 0 then
        if (0 : Int32) = 0 then
          zev r i_L_law 295 [some (.ref l0), some (.ref l1), some (.ref l2), some (.ref l3), some (.int l4), some (.long l5), none, some (.int l7), some (.int l8), some (.int l9), some (.int l10), some (.long l11), none, some (.int l13), some (.int l14), some (.int l15), some (.int l16), some (.int l17), some (.int v1), some (.int v2), some (.int (0 : Int32)), none, none, none, none, none, none, none, none] [.int (0 : Int32), .int l16] h3
        else
          zev r i_L_law 295 [some (.ref l0), some (.ref l1), some (.ref l2), some (.ref l3), some (.int l4), some (.long l5), none, some (.int l7), some (.int l8), some (.int l9), some (.int l10), some (.long l11), none, some (.int l13), some (.int l14), some (.int l15), some (.int l16), some (.int l17), some (.int v1), some (.int v2), some (.int (0 : Int32)), none, none, none, none, none, none, none, none] [.int (1 : Int32), .int l16] h3
      else
        if l13 = 0 then
          if (1 : Int32) = 0 then
            zev r i_L_law 295 [some (.ref l0), some (.ref l1), some (.ref l2), some (.ref l3), some (.int l4), some (.long l5), none, some (.int l7), some (.int l8), some (.int l9), some (.int l10), some (.long l11), none, some (.int l13), some (.int l14), some (.int l15), some (.int l16), some (.int l17), some (.int v1), some (.int v2), some (.int (1 : Int32)), none, none, none, none, none, none, none, none] [.int (0 : Int32), .int l16] h3
          else
            zev r i_L_law 295 [some (.ref l0), some (.ref l1), some (.ref l2), some (.ref l3), some (.int l4), some (.long l5), none, some (.int l7), some (.int l8), some (.int l9), some (.int l10), some (.long l11), none, some (.int l13), some (.int l14), some (.int l15), some (.int l16), some (.int l17), some (.int v1), some (.int v2), some (.int (1 : Int32)), none, none, none, none, none, none, none, none] [.int (1 : Int32), .int l16] h3
        else
          zcI (zev r i_L_told 0 [some (.ref l1), some (.int l17), some (.int (2 : Int32))] [] h3) fun v4 h4 =>
          if v4 = (l13 - (1 : Int32)) then
            if (0 : Int32) = 0 then
              zev r i_L_law 295 [some (.ref l0), some (.ref l1), some (.ref l2), some (.ref l3), some (.int l4), some (.long l5), none, some (.int l7), some (.int l8), some (.int l9), some (.int l10), some (.long l11), none, some (.int l13), some (.int l14), some (.int l15), some (.int l16), some (.int l17), some (.int v1), some (.int v2), some (.int (0 : Int32)), none, none, none, none, none, none, none, none] [.int (0 : Int32), .int l16] h4
            else
              zev r i_L_law 295 [some (.ref l0), some (.ref l1), some (.ref l2), some (.ref l3), some (.int l4), some (.long l5), none, some (.int l7), some (.int l8), some (.int l9), some (.int l10), some (.long l11), none, some (.int l13), some (.int l14), some (.int l15), some (.int l16), some (.int l17), some (.int v1), some (.int v2), some (.int (0 : Int32)), none, none, none, none, none, none, none, none] [.int (1 : Int32), .int l16] h4
          else
            if (1 : Int32) = 0 then
              zev r i_L_law 295 [some (.ref l0), some (.ref l1), some (.ref l2), some (.ref l3), some (.int l4), some (.long l5), none, some (.int l7), some (.int l8), some (.int l9), some (.int l10), some (.long l11), none, some (.int l13), some (.int l14), some (.int l15), some (.int l16), some (.int l17), some (.int v1), some (.int v2), some (.int (1 : Int32)), none, none, none, none, none, none, none, none] [.int (0 : Int32), .int l16] h4
            else
              zev r i_L_law 295 [some (.ref l0), some (.ref l1), some (.ref l2), some (.ref l3), some (.int l4), some (.long l5), none, some (.int l7), some (.int l8), some (.int l9), some (.int l10), some (.long l11), none, some (.int l13), some (.int l14), some (.int l15), some (.int l16), some (.int l17), some (.int v1), some (.int v2), some (.int (1 : Int32)), none, none, none, none, none, none, none, none] [.int (1 : Int32), .int l16] h4)
      else none)
      else none
    else
      if zob r h l1 5 = true then
      (zcI (zev r i_X5_all 0 [some (.ref l1), some (.int l13)] [] h) fun v5 h5 =>
      if v5 = l14 then
        if zob r h5 l1 5 = true then
        (zcI (zev r i_X5_asked 0 [some (.ref l1)] [] h5) fun v6 h6 =>
        if v6 = l16 then
          if zob r h6 l1 5 = true then
          (zcI (zev r i_X5_worst 0 [some (.ref l1), some (.int l13), none, none, none, none] [] h6) fun v7 h7 =>
          if zob r h7 l1 5 = true then
          (zcI (zev r i_X5_asked 0 [some (.ref l1)] [] h7) fun v8 h8 =>
          if v7 < 0 then
            if 0 < l16 then
              zev r i_L_law 760 [some (.ref l0), some (.ref l1), some (.ref l2), some (.ref l3), some (.int l4), some (.long l5), none, some (.int l7), some (.int l8), some (.int l9), some (.int l10), some (.long l11), none, some (.int l13), some (.int l14), some (.int l15), some (.int l16), some (.int v7), some (.int v8), none, none, none, none, none, none, none, none, none, none] [.int (1 : Int32), .int (0 : Int32)] h8
            else
              zev r i_L_law 760 [some (.ref l0), some (.ref l1), some (.ref l2), some (.ref l3), some (.int l4), some (.long l5), none, some (.int l7), some (.int l8), some (.int l9), some (.int l10), some (.long l11), none, some (.int l13), some (.int l14), some (.int l15), some (.int l16), some (.int v7), some (.int v8), none, none, none, none, none, none, none, none, none, none] [.int (0 : Int32), .int (0 : Int32)] h8
          else
            if 0 < l16 then
              zev r i_L_law 760 [some (.ref l0), some (.ref l1), some (.ref l2), some (.ref l3), some (.int l4), some (.long l5), none, some (.int l7), some (.int l8), some (.int l9), some (.int l10), some (.long l11), none, some (.int l13), some (.int l14), some (.int l15), some (.int l16), some (.int v7), some (.int v8), none, none, none, none, none, none, none, none, none, none] [.int (1 : Int32), .int (1 : Int32)] h8
            else
              zev r i_L_law 760 [some (.ref l0), some (.ref l1), some (.ref l2), some (.ref l3), some (.int l4), some (.long l5), none, some (.int l7), some (.int l8), some (.int l9), some (.int l10), some (.long l11), none, some (.int l13), some (.int l14), some (.int l15), some (.int l16), some (.int v7), some (.int v8), none, none, none, none, none, none, none, none, none, none] [.int (0 : Int32), .int (1 : Int32)] h8)
          else none)
          else none
        else
          some (some (.int (0 : Int32)), h6))
        else none
      else
        some (some (.int (0 : Int32)), h5))
      else none) := zblk r [54, 90, 118, 202, 220, 295, 341, 371, 435, 471, 512, 588, 677, 760, 816, 864, 877, 941, 1001, 1032, 1068, 1126, 1150, 1381, 1521, 1558, 1584, 1628, 1685, 1830, 2021] 1087 _ _ _ _ _
set_option maxHeartbeats 4000000 in
set_option maxRecDepth 100000 in
theorem E_L_law_1381 (r : zE) (h : zH) (l0 : Nat) (l1 : Nat) (l2 : Nat) (l3 : Nat) (l4 : Int32) (l5 : Int64) (l7 : Int32) (l8 : Int32) (l9 : Int32) (l10 : Int32) (l11 : Int64) (l13 : Int32) (l14 : Int32) (l15 : Int32) (l16 : Int32) : zev r i_L_law 1381 [some (.ref l0), some (.ref l1), some (.ref l2), some (.ref l3), some (.int l4), some (.long l5), none, some (.int l7), some (.int l8), some (.int l9), some (.int l10), some (.long l11), none, some (.int l13), some (.int l14), some (.int l15), some (.int l16), none, none, none, none, none, none, none, none, none, none, none, none] [] h =
    (if zob r h l1 5 = true then
    (zcI (zev r i_X5_best 0 [some (.ref l1), some (.int (1 : Int32)), some (.int (4 : Int32))] [] h) fun v1 h1 =>
    if zob r h1 l1 5 = true then
    (zcI (zev r i_X5_best 0 [some (.ref l1), some (.int (2 : Int32)), some (.int (4 : Int32))] [] h1) fun v2 h2 =>
    if l16 < (v1 + v2) then
      some (some (.int (0 : Int32)), h2)
    else
      if zob r h2 l1 5 = true then
      (zcI (zev r i_X5_fair 0 [some (.ref l1), some (.int (1 : Int32)), some (.int (4 : Int32))] [] h2) fun v3 h3 =>
      if v1 < v3 then
        some (some (.int (0 : Int32)), h3)
      else
        if zob r h3 l1 5 = true then
        (zcI (zev r i_X5_judge 0 [some (.ref l1), some (.int (2 : Int32)), some (.int l13), none] [] h3) fun v4 h4 =>
        if v4 < l15 then
          some (some (.int (0 : Int32)), h4)
        else
          if zob r h4 l1 5 = true then
          (zcI (zev r i_X5_mid 0 [some (.ref l1), some (.int l13), none, none, none] [] h4) fun v5 h5 =>
          if v5 = (1 : Int32) then
            if zob r h5 l1 5 = true then
            (zcL (zev r i_X5_upper 0 [some (.ref l1)] [] h5) fun v6 h6 =>
            if zob r h6 l1 5 = true then
            (zcL (zev r i_X5_lower 0 [some (.ref l1)] [] h6) fun v7 h7 =>
            if (lg_cmp v6 (l14.toInt64 * v7)) < 0 then
              some (some (.int (0 : Int32)), h7)
            else
              if zob r h7 l1 5 = true then
              (zcL (zev r i_X5_lower 0 [some (.ref l1)] [] h7) fun v8 h8 =>
              if (lg_cmp v8 (1 : Int64)) < 0 then
                some (some (.int (0 : Int32)), h8)
              else
                if zob r h8 l1 5 = true then
                (zcI (zev r i_X5_mates 0 [some (.ref l1), none, none] [] h8) fun v9 h9 =>
                if zob r h9 l1 5 = true then
                (zcI (zev r i_X5_asked 0 [some (.ref l1)] [] h9) fun v10 h10 =>
                if v9 < 0 then
                  some (some (.int (0 : Int32)), h10)
                else
                  if v10 < 0 then
                    some (some (.int (0 : Int32)), h10)
                  else
                    if v10 < l4 then
                      if v9 < l4 then
                        if l9 = l4 then
                          if v10 < v9 then
                            some (some (.int (0 : Int32)), h10)
                          else
                            zev r i_L_law 1521 [some (.ref l0), some (.ref l1), some (.ref l2), some (.ref l3), some (.int l4), some (.long l5), none, some (.int l7), some (.int l8), some (.int l9), some (.int l10), some (.long l11), none, some (.int l13), some (.int l14), some (.int l15), some (.int l16), some (.int v1), some (.int v2), some (.int v9), some (.int v10), none, none, none, none, none, none, none, none] [] h10
                        else
                          zev r i_L_law 1521 [some (.ref l0), some (.ref l1), some (.ref l2), some (.ref l3), some (.int l4), some (.long l5), none, some (.int l7), some (.int l8), some (.int l9), some (.int l10), some (.long l11), none, some (.int l13), some (.int l14), some (.int l15), some (.int l16), some (.int v1), some (.int v2), some (.int v9), some (.int v10), none, none, none, none, none, none, none, none] [] h10
                      else
                        some (some (.int (0 : Int32)), h10)
                    else
                      some (some (.int (0 : Int32)), h10))
                else none)
                else none)
              else none)
            else none)
            else none
          else
            some (some (.int (0 : Int32)), h5))
          else none)
        else none)
      else none)
    else none)
    else none) := zblk r [54, 90, 118, 202, 220, 295, 341, 371, 435, 471, 512, 588, 677, 760, 816, 864, 877, 941, 1001, 1032, 1068, 1126, 1150, 1381, 1521, 1558, 1584, 1628, 1685, 1830, 2021] 1087 _ _ _ _ _
set_option maxHeartbeats 4000000 in
set_option maxRecDepth 100000 in
theorem E_L_law_295 (r : zE) (h : zH) (l0 : Nat) (l1 : Nat) (l2 : Nat) (l3 : Nat) (l4 : Int32) (l5 : Int64) (l7 : Int32) (l8 : Int32) (l9 : Int32) (l10 : Int32) (l11 : Int64) (l13 : Int32) (l14 : Int32) (l15 : Int32) (l16 : Int32) (l17 : Int32) (l18 : Int32) (l19 : Int32) (l20 : Int32) (s0 : Int32) (s1 : Int32) : zev r i_L_law 295 [some (.ref l0), some (.ref l1), some (.ref l2), some (.ref l3), some (.int l4), some (.long l5), none, some (.int l7), some (.int l8), some (.int l9), some (.int l10), some (.long l11), none, some (.int l13), some (.int l14), some (.int l15), some (.int l16), some (.int l17), some (.int l18), some (.int l19), some (.int l20), none, none, none, none, none, none, none, none] [.int s0, .int s1] h =
    (if l20 = 0 then
      if l19 < 0 then
        some (some (.int (0 : Int32)), h)
      else
        if l20 = 0 then
          if l19 = 0 then
            zev r i_L_law 341 [some (.ref l0), some (.ref l1), some (.ref l2), some (.ref l3), some (.int l4), some (.long l5), none, some (.int l7), some (.int l8), some (.int l9), some (.int l10), some (.long l11), none, some (.int l13), some (.int (l14 + l19)), some (.int l15), some (.int (s1 + s0)), some (.int l17), some (.int l18), some (.int l19), some (.int l20), none, none, none, none, none, none, none, none] [] h
          else
            some (some (.int (0 : Int32)), h)
        else
          zev r i_L_law 341 [some (.ref l0), some (.ref l1), some (.ref l2), some (.ref l3), some (.int l4), some (.long l5), none, some (.int l7), some (.int l8), some (.int l9), some (.int l10), some (.long l11), none, some (.int l13), some (.int (l14 + l19)), some (.int l15), some (.int (s1 + s0)), some (.int l17), some (.int l18), some (.int l19), some (.int l20), none, none, none, none, none, none, none, none] [] h
    else
      if l15 < l19 then
        if l19 < 0 then
          some (some (.int (0 : Int32)), h)
        else
          if l20 = 0 then
            if l19 = 0 then
              zev r i_L_law 341 [some (.ref l0), some (.ref l1), some (.ref l2), some (.ref l3), some (.int l4), some (.long l5), none, some (.int l7), some (.int l8), some (.int l9), some (.int l10), some (.long l11), none, some (.int l13), some (.int (l14 + l19)), some (.int l19), some (.int (s1 + s0)), some (.int l17), some (.int l18), some (.int l19), some (.int l20), none, none, none, none, none, none, none, none] [] h
            else
              some (some (.int (0 : Int32)), h)
          else
            zev r i_L_law 341 [some (.ref l0), some (.ref l1), some (.ref l2), some (.ref l3), some (.int l4), some (.long l5), none, some (.int l7), some (.int l8), some (.int l9), some (.int l10), some (.long l11), none, some (.int l13), some (.int (l14 + l19)), some (.int l19), some (.int (s1 + s0)), some (.int l17), some (.int l18), some (.int l19), some (.int l20), none, none, none, none, none, none, none, none] [] h
      else
        if l19 < 0 then
          some (some (.int (0 : Int32)), h)
        else
          if l20 = 0 then
            if l19 = 0 then
              zev r i_L_law 341 [some (.ref l0), some (.ref l1), some (.ref l2), some (.ref l3), some (.int l4), some (.long l5), none, some (.int l7), some (.int l8), some (.int l9), some (.int l10), some (.long l11), none, some (.int l13), some (.int (l14 + l19)), some (.int l15), some (.int (s1 + s0)), some (.int l17), some (.int l18), some (.int l19), some (.int l20), none, none, none, none, none, none, none, none] [] h
            else
              some (some (.int (0 : Int32)), h)
          else
            zev r i_L_law 341 [some (.ref l0), some (.ref l1), some (.ref l2), some (.ref l3), some (.int l4), some (.long l5), none, some (.int l7), some (.int l8), some (.int l9), some (.int l10), some (.long l11), none, some (.int l13), some (.int (l14 + l19)), some (.int l15), some (.int (s1 + s0)), some (.int l17), some (.int l18), some (.int l19), some (.int l20), none, none, none, none, none, none, none, none] [] h) := zblk r [54, 90, 118, 202, 220, 295, 341, 371, 435, 471, 512, 588, 677, 760, 816, 864, 877, 941, 1001, 1032, 1068, 1126, 1150, 1381, 1521, 1558, 1584, 1628, 1685, 1830, 2021] 1087 _ _ _ _ _
set_option maxHeartbeats 4000000 in
set_option maxRecDepth 100000 in
theorem E_L_law_760 (r : zE) (h : zH) (l0 : Nat) (l1 : Nat) (l2 : Nat) (l3 : Nat) (l4 : Int32) (l5 : Int64) (l7 : Int32) (l8 : Int32) (l9 : Int32) (l10 : Int32) (l11 : Int64) (l13 : Int32) (l14 : Int32) (l15 : Int32) (l16 : Int32) (l17 : Int32) (l18 : Int32) (s0 : Int32) (s1 : Int32) : zev r i_L_law 760 [some (.ref l0), some (.ref l1), some (.ref l2), some (.ref l3), some (.int l4), some (.long l5), none, some (.int l7), some (.int l8), some (.int l9), some (.int l10), some (.long l11), none, some (.int l13), some (.int l14), some (.int l15), some (.int l16), some (.int l17), some (.int l18), none, none, none, none, none, none, none, none, none, none] [.int s0, .int s1] h =
    (if s1 = s0 then
      if l17 < 0 then
        if zob r h l1 5 = true then
        (zcI (zev r i_X5_calm 0 [some (.ref l1), some (.int l13), none] [] h) fun v1 h1 =>
        if zob r h1 l1 5 = true then
        (zcI (zev r i_X5_asked 0 [some (.ref l1)] [] h1) fun v2 h2 =>
        if v2 < 0 then
          zev r i_L_law 816 [some (.ref l0), some (.ref l1), some (.ref l2), some (.ref l3), some (.int l4), some (.long l5), none, some (.int l7), some (.int l8), some (.int l9), some (.int l10), some (.long l11), none, some (.int l13), some (.int l14), some (.int l15), some (.int l16), some (.int l17), some (.int l18), some (.int v1), some (.int v2), none, none, none, none, none, none, none, none] [.int (1 : Int32), .int v1] h2
        else
          zev r i_L_law 816 [some (.ref l0), some (.ref l1), some (.ref l2), some (.ref l3), some (.int l4), some (.long l5), none, some (.int l7), some (.int l8), some (.int l9), some (.int l10), some (.long l11), none, some (.int l13), some (.int l14), some (.int l15), some (.int l16), some (.int l17), some (.int l18), some (.int v1), some (.int v2), none, none, none, none, none, none, none, none] [.int (0 : Int32), .int v1] h2)
        else none)
        else none
      else
        if l18 = l15 then
          if zob r h l1 5 = true then
          (zcI (zev r i_X5_woken 0 [some (.ref l1), some (.int l17), some (.int l13)] [] h) fun v3 h3 =>
          if v3 = l15 then
            if zob r h3 l1 5 = true then
            (zcI (zev r i_X5_calm 0 [some (.ref l1), some (.int l13), none] [] h3) fun v4 h4 =>
            if zob r h4 l1 5 = true then
            (zcI (zev r i_X5_asked 0 [some (.ref l1)] [] h4) fun v5 h5 =>
            if v5 < 0 then
              zev r i_L_law 816 [some (.ref l0), some (.ref l1), some (.ref l2), some (.ref l3), some (.int l4), some (.long l5), none, some (.int l7), some (.int l8), some (.int l9), some (.int l10), some (.long l11), none, some (.int l13), some (.int l14), some (.int l15), some (.int l16), some (.int l17), some (.int l18), some (.int v4), some (.int v5), none, none, none, none, none, none, none, none] [.int (1 : Int32), .int v4] h5
            else
              zev r i_L_law 816 [some (.ref l0), some (.ref l1), some (.ref l2), some (.ref l3), some (.int l4), some (.long l5), none, some (.int l7), some (.int l8), some (.int l9), some (.int l10), some (.long l11), none, some (.int l13), some (.int l14), some (.int l15), some (.int l16), some (.int l17), some (.int l18), some (.int v4), some (.int v5), none, none, none, none, none, none, none, none] [.int (0 : Int32), .int v4] h5)
            else none)
            else none
          else
            some (some (.int (0 : Int32)), h3))
          else none
        else
          some (some (.int (0 : Int32)), h)
    else
      some (some (.int (0 : Int32)), h)) := zblk r [54, 90, 118, 202, 220, 295, 341, 371, 435, 471, 512, 588, 677, 760, 816, 864, 877, 941, 1001, 1032, 1068, 1126, 1150, 1381, 1521, 1558, 1584, 1628, 1685, 1830, 2021] 1087 _ _ _ _ _
set_option maxHeartbeats 4000000 in
set_option maxRecDepth 100000 in
theorem E_L_law_1521 (r : zE) (h : zH) (l0 : Nat) (l1 : Nat) (l2 : Nat) (l3 : Nat) (l4 : Int32) (l5 : Int64) (l7 : Int32) (l8 : Int32) (l9 : Int32) (l10 : Int32) (l11 : Int64) (l13 : Int32) (l14 : Int32) (l15 : Int32) (l16 : Int32) (l17 : Int32) (l18 : Int32) (l19 : Int32) (l20 : Int32) : zev r i_L_law 1521 [some (.ref l0), some (.ref l1), some (.ref l2), some (.ref l3), some (.int l4), some (.long l5), none, some (.int l7), some (.int l8), some (.int l9), some (.int l10), some (.long l11), none, some (.int l13), some (.int l14), some (.int l15), some (.int l16), some (.int l17), some (.int l18), some (.int l19), some (.int l20), none, none, none, none, none, none, none, none] [] h =
    (if zob r h l1 5 = true then
    (zcI (zev r i_X5_up 0 [some (.ref l1), some (.int l13), some (.int (4 : Int32)), none, none, none, none, none] [] h) fun v1 h1 =>
    if zob r h1 l1 5 = true then
    (zcI (zev r i_X5_all 0 [some (.ref l1), some (.int l13)] [] h1) fun v2 h2 =>
    if v2 < 0 then
      zev r i_L_law 1558 [some (.ref l0), some (.ref l1), some (.ref l2), some (.ref l3), some (.int l4), some (.long l5), none, some (.int l7), some (.int l8), some (.int l9), some (.int l10), some (.long l11), none, some (.int l13), some (.int l14), some (.int l15), some (.int l16), some (.int l17), some (.int l18), some (.int l19), some (.int l20), some (.int v1), some (.int (-1 : Int32)), some (.int (0 : Int32)), some (.int (-1 : Int32)), some (.int (0 : Int32)), none, none, none] [] h2
    else
      if zob r h2 l1 5 = true then
      (zcI (zev r i_X5_asked 0 [some (.ref l1)] [] h2) fun v3 h3 =>
      zev r i_L_law 1558 [some (.ref l0), some (.ref l1), some (.ref l2), some (.ref l3), some (.int l4), some (.long l5), none, some (.int l7), some (.int l8), some (.int l9), some (.int l10), some (.long l11), none, some (.int l13), some (.int l14), some (.int l15), some (.int l16), some (.int l17), some (.int l18), some (.int l19), some (.int l20), some (.int v1), some (.int v3), some (.int (0 : Int32)), some (.int (-1 : Int32)), some (.int (0 : Int32)), none, none, none] [] h3)
      else none)
    else none)
    else none) := zblk r [54, 90, 118, 202, 220, 295, 341, 371, 435, 471, 512, 588, 677, 760, 816, 864, 877, 941, 1001, 1032, 1068, 1126, 1150, 1381, 1521, 1558, 1584, 1628, 1685, 1830, 2021] 1087 _ _ _ _ _
set_option maxHeartbeats 4000000 in
set_option maxRecDepth 100000 in
theorem E_L_law_341 (r : zE) (h : zH) (l0 : Nat) (l1 : Nat) (l2 : Nat) (l3 : Nat) (l4 : Int32) (l5 : Int64) (l7 : Int32) (l8 : Int32) (l9 : Int32) (l10 : Int32) (l11 : Int64) (l13 : Int32) (l14 : Int32) (l15 : Int32) (l16 : Int32) (l17 : Int32) (l18 : Int32) (l19 : Int32) (l20 : Int32) : zev r i_L_law 341 [some (.ref l0), some (.ref l1), some (.ref l2), some (.ref l3), some (.int l4), some (.long l5), none, some (.int l7), some (.int l8), some (.int l9), some (.int l10), some (.long l11), none, some (.int l13), some (.int l14), some (.int l15), some (.int l16), some (.int l17), some (.int l18), some (.int l19), some (.int l20), none, none, none, none, none, none, none, none] [] h =
    (if l18 < 0 then
      some (some (.int (0 : Int32)), h)
    else
      zcI (zev r i_L_bits 0 [some (.int l18), none, none] [] h) fun v1 h1 =>
      if (2 : Int32) < v1 then
        some (some (.int (0 : Int32)), h1)
      else
        if ((l18 >>> (l17 &&& 31)) &&& (1 : Int32)) = (1 : Int32) then
          some (some (.int (0 : Int32)), h1)
        else
          zev r i_L_law 371 [some (.ref l0), some (.ref l1), some (.ref l2), some (.ref l3), some (.int l4), some (.long l5), none, some (.int l7), some (.int l8), some (.int l9), some (.int l10), some (.long l11), none, some (.int l13), some (.int l14), some (.int l15), some (.int l16), some (.int l17), some (.int l18), some (.int l19), some (.int l20), some (.int (0 : Int32)), none, none, none, none, none, none, none] [] h1) := zblk r [54, 90, 118, 202, 220, 295, 341, 371, 435, 471, 512, 588, 677, 760, 816, 864, 877, 941, 1001, 1032, 1068, 1126, 1150, 1381, 1521, 1558, 1584, 1628, 1685, 1830, 2021] 1087 _ _ _ _ _
set_option maxHeartbeats 4000000 in
set_option maxRecDepth 100000 in
theorem E_L_law_816 (r : zE) (h : zH) (l0 : Nat) (l1 : Nat) (l2 : Nat) (l3 : Nat) (l4 : Int32) (l5 : Int64) (l7 : Int32) (l8 : Int32) (l9 : Int32) (l10 : Int32) (l11 : Int64) (l13 : Int32) (l14 : Int32) (l15 : Int32) (l16 : Int32) (l17 : Int32) (l18 : Int32) (l19 : Int32) (l20 : Int32) (s0 : Int32) (s1 : Int32) : zev r i_L_law 816 [some (.ref l0), some (.ref l1), some (.ref l2), some (.ref l3), some (.int l4), some (.long l5), none, some (.int l7), some (.int l8), some (.int l9), some (.int l10), some (.long l11), none, some (.int l13), some (.int l14), some (.int l15), some (.int l16), some (.int l17), some (.int l18), some (.int l19), some (.int l20), none, none, none, none, none, none, none, none] [.int s0, .int s1] h =
    (if s1 = s0 then
      if l20 < 0 then
        zev r i_L_law 864 [some (.ref l0), some (.ref l1), some (.ref l2), some (.ref l3), some (.int l4), some (.long l5), none, some (.int l7), some (.int l8), some (.int l9), some (.int l10), some (.long l11), none, some (.int l13), some (.int l14), some (.int l15), some (.int l16), some (.int l17), some (.int l18), some (.int l19), some (.int l20), some (.int (0 : Int32)), none, none, none, none, none, none, none] [] h
      else
        if (6 : Int32) = 0 then none else
        if (6 : Int32) = 0 then none else
        if zob r h l1 5 = true then
        (zcI (zev r i_X5_gain 0 [some (.ref l1), some (.int (l20 / (6 : Int32))), some (.int (l20 - l20 / (6 : Int32) * (6 : Int32))), some (.int l13)] [] h) fun v1 h1 =>
        if v1 < (-900 : Int32) then
          some (some (.int (0 : Int32)), h1)
        else
          if (6 : Int32) = 0 then none else
          if (6 : Int32) = 0 then none else
          if (l20 / (6 : Int32)) < (l20 - l20 / (6 : Int32) * (6 : Int32)) then
            zev r i_L_law 864 [some (.ref l0), some (.ref l1), some (.ref l2), some (.ref l3), some (.int l4), some (.long l5), none, some (.int l7), some (.int l8), some (.int l9), some (.int l10), some (.long l11), none, some (.int l13), some (.int l14), some (.int l15), some (.int l16), some (.int l17), some (.int l18), some (.int l19), some (.int l20), some (.int (0 : Int32)), none, none, none, none, none, none, none] [] h1
          else
            some (some (.int (0 : Int32)), h1))
        else none
    else
      some (some (.int (0 : Int32)), h)) := zblk r [54, 90, 118, 202, 220, 295, 341, 371, 435, 471, 512, 588, 677, 760, 816, 864, 877, 941, 1001, 1032, 1068, 1126, 1150, 1381, 1521, 1558, 1584, 1628, 1685, 1830, 2021] 1087 _ _ _ _ _
set_option maxHeartbeats 4000000 in
set_option maxRecDepth 100000 in
theorem E_L_law_1558 (r : zE) (h : zH) (l0 : Nat) (l1 : Nat) (l2 : Nat) (l3 : Nat) (l4 : Int32) (l5 : Int64) (l7 : Int32) (l8 : Int32) (l9 : Int32) (l10 : Int32) (l11 : Int64) (l13 : Int32) (l14 : Int32) (l15 : Int32) (l16 : Int32) (l17 : Int32) (l18 : Int32) (l19 : Int32) (l20 : Int32) (l21 : Int32) (l22 : Int32) (l23 : Int32) (l24 : Int32) (l25 : Int32) : zev r i_L_law 1558 [some (.ref l0), some (.ref l1), some (.ref l2), some (.ref l3), some (.int l4), some (.long l5), none, some (.int l7), some (.int l8), some (.int l9), some (.int l10), some (.long l11), none, some (.int l13), some (.int l14), some (.int l15), some (.int l16), some (.int l17), some (.int l18), some (.int l19), some (.int l20), some (.int l21), some (.int l22), some (.int l23), some (.int l24), some (.int l25), none, none, none] [] h =
    (if l25 < l22 then
      if zob r h l1 5 = true then
      (zcI (zev r i_X5_at 0 [some (.ref l1), some (.int (4 : Int32)), some (.int l25), none] [] h) fun v1 h1 =>
      if v1 = (1 : Int32) then
        if zob r h1 l1 5 = true then
        (zcI (zev r i_X5_asked 0 [some (.ref l1)] [] h1) fun v2 h2 =>
        zev r i_L_law 1584 [some (.ref l0), some (.ref l1), some (.ref l2), some (.ref l3), some (.int l4), some (.long l5), none, some (.int l7), some (.int l8), some (.int l9), some (.int l10), some (.long l11), none, some (.int l13), some (.int l14), some (.int l15), some (.int l16), some (.int l17), some (.int l18), some (.int l19), some (.int l20), some (.int l21), some (.int l22), some (.int l23), some (.int l24), some (.int l25), none, none, none] [.int v2] h2)
        else none
      else
        zev r i_L_law 1584 [some (.ref l0), some (.ref l1), some (.ref l2), some (.ref l3), some (.int l4), some (.long l5), none, some (.int l7), some (.int l8), some (.int l9), some (.int l10), some (.long l11), none, some (.int l13), some (.int l14), some (.int l15), some (.int l16), some (.int l17), some (.int l18), some (.int l19), some (.int l20), some (.int l21), some (.int l22), some (.int l23), some (.int l24), some (.int l25), none, none, none] [.int (-1 : Int32)] h1)
      else none
    else
      if l21 < 0 then
        some (some (.int (0 : Int32)), h)
      else
        if zob r h l1 5 = true then
        (zcI (zev r i_X5_at 0 [some (.ref l1), some (.int (4 : Int32)), some (.int l22), none] [] h) fun v3 h3 =>
        if v3 = (-3 : Int32) then
          if l22 < (2 : Int32) then
            if l21 = 0 then
              zev r i_L_law 1685 [some (.ref l0), some (.ref l1), some (.ref l2), some (.ref l3), some (.int l4), some (.long l5), none, some (.int l7), some (.int l8), some (.int l9), some (.int l10), some (.long l11), none, some (.int l13), some (.int l14), some (.int l15), some (.int l16), some (.int l17), some (.int l18), some (.int l19), some (.int l20), some (.int l21), some (.int l22), some (.int l23), some (.int l24), some (.int l25), none, none, none] [] h3
            else
              some (some (.int (0 : Int32)), h3)
          else
            zev r i_L_law 1685 [some (.ref l0), some (.ref l1), some (.ref l2), some (.ref l3), some (.int l4), some (.long l5), none, some (.int l7), some (.int l8), some (.int l9), some (.int l10), some (.long l11), none, some (.int l13), some (.int l14), some (.int l15), some (.int l16), some (.int l17), some (.int l18), some (.int l19), some (.int l20), some (.int l21), some (.int l22), some (.int l23), some (.int l24), some (.int l25), none, none, none] [] h3
        else
          some (some (.int (0 : Int32)), h3))
        else none) := zblk r [54, 90, 118, 202, 220, 295, 341, 371, 435, 471, 512, 588, 677, 760, 816, 864, 877, 941, 1001, 1032, 1068, 1126, 1150, 1381, 1521, 1558, 1584, 1628, 1685, 1830, 2021] 1087 _ _ _ _ _
set_option maxHeartbeats 4000000 in
set_option maxRecDepth 100000 in
theorem E_L_law_371 (r : zE) (h : zH) (l0 : Nat) (l1 : Nat) (l2 : Nat) (l3 : Nat) (l4 : Int32) (l5 : Int64) (l7 : Int32) (l8 : Int32) (l9 : Int32) (l10 : Int32) (l11 : Int64) (l13 : Int32) (l14 : Int32) (l15 : Int32) (l16 : Int32) (l17 : Int32) (l18 : Int32) (l19 : Int32) (l20 : Int32) (l21 : Int32) : zev r i_L_law 371 [some (.ref l0), some (.ref l1), some (.ref l2), some (.ref l3), some (.int l4), some (.long l5), none, some (.int l7), some (.int l8), some (.int l9), some (.int l10), some (.long l11), none, some (.int l13), some (.int l14), some (.int l15), some (.int l16), some (.int l17), some (.int l18), some (.int l19), some (.int l20), some (.int l21), none, none, none, none, none, none, none] [] h =
    (if l21 < l4 then
      if l20 = 0 then
        zev r i_L_law 471 [some (.ref l0), some (.ref l1), some (.ref l2), some (.ref l3), some (.int l4), some (.long l5), none, some (.int l7), some (.int l8), some (.int l9), some (.int l10), some (.long l11), none, some (.int l13), some (.int l14), some (.int l15), some (.int l16), some (.int l17), some (.int l18), some (.int l19), some (.int l20), some (.int l21), none, none, none, none, none, none, none] [] h
      else
        zcI (zev r i_L_told 0 [some (.ref l1), some (.int l21), some (.int (4 : Int32))] [] h) fun v1 h1 =>
        if v1 < 0 then
          if ((l18 >>> (l21 &&& 31)) &&& (1 : Int32)) = (1 : Int32) then
            if (0 : Int32) = 0 then
              some (some (.int (0 : Int32)), h1)
            else
              zev r i_L_law 435 [some (.ref l0), some (.ref l1), some (.ref l2), some (.ref l3), some (.int l4), some (.long l5), none, some (.int l7), some (.int l8), some (.int l9), some (.int l10), some (.long l11), none, some (.int l13), some (.int l14), some (.int l15), some (.int l16), some (.int l17), some (.int l18), some (.int l19), some (.int l20), some (.int l21), some (.int (0 : Int32)), none, none, none, none, none, none] [] h1
          else
            zev r i_L_law 435 [some (.ref l0), some (.ref l1), some (.ref l2), some (.ref l3), some (.int l4), some (.long l5), none, some (.int l7), some (.int l8), some (.int l9), some (.int l10), some (.long l11), none, some (.int l13), some (.int l14), some (.int l15), some (.int l16), some (.int l17), some (.int l18), some (.int l19), some (.int l20), some (.int l21), some (.int (0 : Int32)), none, none, none, none, none, none] [] h1
        else
          if l13 = 0 then
            if ((l18 >>> (l21 &&& 31)) &&& (1 : Int32)) = (1 : Int32) then
              if (1 : Int32) = 0 then
                some (some (.int (0 : Int32)), h1)
              else
                zev r i_L_law 435 [some (.ref l0), some (.ref l1), some (.ref l2), some (.ref l3), some (.int l4), some (.long l5), none, some (.int l7), some (.int l8), some (.int l9), some (.int l10), some (.long l11), none, some (.int l13), some (.int l14), some (.int l15), some (.int l16), some (.int l17), some (.int l18), some (.int l19), some (.int l20), some (.int l21), some (.int (1 : Int32)), none, none, none, none, none, none] [] h1
            else
              zev r i_L_law 435 [some (.ref l0), some (.ref l1), some (.ref l2), some (.ref l3), some (.int l4), some (.long l5), none, some (.int l7), some (.int l8), some (.int l9), some (.int l10), some (.long l11), none, some (.int l13), some (.int l14), some (.int l15), some (.int l16), some (.int l17), some (.int l18), some (.int l19), some (.int l20), some (.int l21), some (.int (1 : Int32)), none, none, none, none, none, none] [] h1
          else
            zcI (zev r i_L_told 0 [some (.ref l1), some (.int l21), some (.int (2 : Int32))] [] h1) fun v2 h2 =>
            if v2 = (l13 - (1 : Int32)) then
              if ((l18 >>> (l21 &&& 31)) &&& (1 : Int32)) = (1 : Int32) then
                if (0 : Int32) = 0 then
                  some (some (.int (0 : Int32)), h2)
                else
                  zev r i_L_law 435 [some (.ref l0), some (.ref l1), some (.ref l2), some (.ref l3), some (.int l4), some (.long l5), none, some (.int l7), some (.int l8), some (.int l9), some (.int l10), some (.long l11), none, some (.int l13), some (.int l14), some (.int l15), some (.int l16), some (.int l17), some (.int l18), some (.int l19), some (.int l20), some (.int l21), some (.int (0 : Int32)), none, none, none, none, none, none] [] h2
              else
                zev r i_L_law 435 [some (.ref l0), some (.ref l1), some (.ref l2), some (.ref l3), some (.int l4), some (.long l5), none, some (.int l7), some (.int l8), some (.int l9), some (.int l10), some (.long l11), none, some (.int l13), some (.int l14), some (.int l15), some (.int l16), some (.int l17), some (.int l18), some (.int l19), some (.int l20), some (.int l21), some (.int (0 : Int32)), none, none, none, none, none, none] [] h2
            else
              if ((l18 >>> (l21 &&& 31)) &&& (1 : Int32)) = (1 : Int32) then
                if (1 : Int32) = 0 then
                  some (some (.int (0 : Int32)), h2)
                else
                  zev r i_L_law 435 [some (.ref l0), some (.ref l1), some (.ref l2), some (.ref l3), some (.int l4), some (.long l5), none, some (.int l7), some (.int l8), some (.int l9), some (.int l10), some (.long l11), none, some (.int l13), some (.int l14), some (.int l15), some (.int l16), some (.int l17), some (.int l18), some (.int l19), some (.int l20), some (.int l21), some (.int (1 : Int32)), none, none, none, none, none, none] [] h2
              else
                zev r i_L_law 435 [some (.ref l0), some (.ref l1), some (.ref l2), some (.ref l3), some (.int l4), some (.long l5), none, some (.int l7), some (.int l8), some (.int l9), some (.int l10), some (.long l11), none, some (.int l13), some (.int l14), some (.int l15), some (.int l16), some (.int l17), some (.int l18), some (.int l19), some (.int l20), some (.int l21), some (.int (1 : Int32)), none, none, none, none, none, none] [] h2
    else
      zev r i_L_law 471 [some (.ref l0), some (.ref l1), some (.ref l2), some (.ref l3), some (.int l4), some (.long l5), none, some (.int l7), some (.int l8), some (.int l9), some (.int l10), some (.long l11), none, some (.int l13), some (.int l14), some (.int l15), some (.int l16), some (.int l17), some (.int l18), some (.int l19), some (.int l20), some (.int l21), none, none, none, none, none, none, none] [] h) := zblk r [54, 90, 118, 202, 220, 295, 341, 371, 435, 471, 512, 588, 677, 760, 816, 864, 877, 941, 1001, 1032, 1068, 1126, 1150, 1381, 1521, 1558, 1584, 1628, 1685, 1830, 2021] 1087 _ _ _ _ _
set_option maxHeartbeats 4000000 in
set_option maxRecDepth 100000 in
theorem E_L_law_864 (r : zE) (h : zH) (l0 : Nat) (l1 : Nat) (l2 : Nat) (l3 : Nat) (l4 : Int32) (l5 : Int64) (l7 : Int32) (l8 : Int32) (l9 : Int32) (l10 : Int32) (l11 : Int64) (l13 : Int32) (l14 : Int32) (l15 : Int32) (l16 : Int32) (l17 : Int32) (l18 : Int32) (l19 : Int32) (l20 : Int32) (l21 : Int32) : zev r i_L_law 864 [some (.ref l0), some (.ref l1), some (.ref l2), some (.ref l3), some (.int l4), some (.long l5), none, some (.int l7), some (.int l8), some (.int l9), some (.int l10), some (.long l11), none, some (.int l13), some (.int l14), some (.int l15), some (.int l16), some (.int l17), some (.int l18), some (.int l19), some (.int l20), some (.int l21), none, none, none, none, none, none, none] [] h =
    (if l21 < l4 then
      zev r i_L_law 877 [some (.ref l0), some (.ref l1), some (.ref l2), some (.ref l3), some (.int l4), some (.long l5), none, some (.int l7), some (.int l8), some (.int l9), some (.int l10), some (.long l11), none, some (.int l13), some (.int l14), some (.int l15), some (.int l16), some (.int l17), some (.int l18), some (.int l19), some (.int l20), some (.int l21), some (.int (l21 + (1 : Int32))), none, none, none, none, none, none] [] h
    else
      if zob r h l1 5 = true then
      (zcI (zev r i_X5_count 0 [some (.ref l1), some (.int (4 : Int32))] [] h) fun v1 h1 =>
      if zob r h1 l1 5 = true then
      (zcI (zev r i_X5_night 0 [some (.ref l1), some (.int l13)] [] h1) fun v2 h2 =>
      if v2 < 0 then
        some (some (.int (0 : Int32)), h2)
      else
        if l14 < v2 then
          some (some (.int (0 : Int32)), h2)
        else
          if zob r h2 l1 5 = true then
          (zcI (zev r i_X5_count 0 [some (.ref l1), some (.int (4 : Int32))] [] h2) fun v3 h3 =>
          if v3 = (v1 + v2) then
            if zob r h3 l1 5 = true then
            (zcI (zev r i_X5_undo 0 [some (.ref l1), some (.int l10), none] [] h3) fun v4 h4 =>
            if v4 = (1 : Int32) then
              if zob r h4 l1 5 = true then
              (zcL (zev r i_X5_digest 0 [some (.ref l1), none, none, none, none] [] h4) fun v5 h5 =>
              if (lg_cmp v5 l11) = 0 then
                zev r i_L_law 202 [some (.ref l0), some (.ref l1), some (.ref l2), some (.ref l3), some (.int l4), some (.long l5), none, some (.int l7), some (.int l8), some (.int l9), some (.int l10), some (.long l11), none, some (.int (l13 + (1 : Int32))), none, none, none, none, none, none, none, none, none, none, none, none, none, none, none] [] h5
              else
                some (some (.int (0 : Int32)), h5))
              else none
            else
              some (some (.int (0 : Int32)), h4))
            else none
          else
            some (some (.int (0 : Int32)), h3))
          else none)
      else none)
      else none) := zblk r [54, 90, 118, 202, 220, 295, 341, 371, 435, 471, 512, 588, 677, 760, 816, 864, 877, 941, 1001, 1032, 1068, 1126, 1150, 1381, 1521, 1558, 1584, 1628, 1685, 1830, 2021] 1087 _ _ _ _ _
set_option maxHeartbeats 4000000 in
set_option maxRecDepth 100000 in
theorem E_L_law_1584 (r : zE) (h : zH) (l0 : Nat) (l1 : Nat) (l2 : Nat) (l3 : Nat) (l4 : Int32) (l5 : Int64) (l7 : Int32) (l8 : Int32) (l9 : Int32) (l10 : Int32) (l11 : Int64) (l13 : Int32) (l14 : Int32) (l15 : Int32) (l16 : Int32) (l17 : Int32) (l18 : Int32) (l19 : Int32) (l20 : Int32) (l21 : Int32) (l22 : Int32) (l23 : Int32) (l24 : Int32) (l25 : Int32) (s0 : Int32) : zev r i_L_law 1584 [some (.ref l0), some (.ref l1), some (.ref l2), some (.ref l3), some (.int l4), some (.long l5), none, some (.int l7), some (.int l8), some (.int l9), some (.int l10), some (.long l11), none, some (.int l13), some (.int l14), some (.int l15), some (.int l16), some (.int l17), some (.int l18), some (.int l19), some (.int l20), some (.int l21), some (.int l22), some (.int l23), some (.int l24), some (.int l25), none, none, none] [.int s0] h =
    (if s0 < 0 then
      some (some (.int (0 : Int32)), h)
    else
      if s0 < l4 then
        if ((l23 >>> (s0 &&& 31)) &&& (1 : Int32)) = (1 : Int32) then
          some (some (.int (0 : Int32)), h)
        else
          if 0 < l13 then
            zcI (zev r i_L_told 0 [some (.ref l1), some (.int s0), some (.int (2 : Int32))] [] h) fun v1 h1 =>
            if v1 = (l13 - (1 : Int32)) then
              some (some (.int (0 : Int32)), h1)
            else
              zev r i_L_law 1628 [some (.ref l0), some (.ref l1), some (.ref l2), some (.ref l3), some (.int l4), some (.long l5), none, some (.int l7), some (.int l8), some (.int l9), some (.int l10), some (.long l11), none, some (.int l13), some (.int l14), some (.int l15), some (.int l16), some (.int l17), some (.int l18), some (.int l19), some (.int l20), some (.int l21), some (.int l22), some (.int l23), some (.int s0), some (.int l25), none, none, none] [] h1
          else
            zev r i_L_law 1628 [some (.ref l0), some (.ref l1), some (.ref l2), some (.ref l3), some (.int l4), some (.long l5), none, some (.int l7), some (.int l8), some (.int l9), some (.int l10), some (.long l11), none, some (.int l13), some (.int l14), some (.int l15), some (.int l16), some (.int l17), some (.int l18), some (.int l19), some (.int l20), some (.int l21), some (.int l22), some (.int l23), some (.int s0), some (.int l25), none, none, none] [] h
      else
        some (some (.int (0 : Int32)), h)) := zblk r [54, 90, 118, 202, 220, 295, 341, 371, 435, 471, 512, 588, 677, 760, 816, 864, 877, 941, 1001, 1032, 1068, 1126, 1150, 1381, 1521, 1558, 1584, 1628, 1685, 1830, 2021] 1087 _ _ _ _ _
set_option maxHeartbeats 4000000 in
set_option maxRecDepth 100000 in
theorem E_L_law_1685 (r : zE) (h : zH) (l0 : Nat) (l1 : Nat) (l2 : Nat) (l3 : Nat) (l4 : Int32) (l5 : Int64) (l7 : Int32) (l8 : Int32) (l9 : Int32) (l10 : Int32) (l11 : Int64) (l13 : Int32) (l14 : Int32) (l15 : Int32) (l16 : Int32) (l17 : Int32) (l18 : Int32) (l19 : Int32) (l20 : Int32) (l21 : Int32) (l22 : Int32) (l23 : Int32) (l24 : Int32) (l25 : Int32) : zev r i_L_law 1685 [some (.ref l0), some (.ref l1), some (.ref l2), some (.ref l3), some (.int l4), some (.long l5), none, some (.int l7), some (.int l8), some (.int l9), some (.int l10), some (.long l11), none, some (.int l13), some (.int l14), some (.int l15), some (.int l16), some (.int l17), some (.int l18), some (.int l19), some (.int l20), some (.int l21), some (.int l22), some (.int l23), some (.int l24), some (.int l25), none, none, none] [] h =
    (if zob r h l1 5 = true then
    (zcI (zev r i_X5_row 0 [some (.ref l1), some (.int (5 : Int32)), some (.int (4 : Int32))] [] h) fun v1 h1 =>
    if v1 = (4 : Int32) then
      if zob r h1 l1 5 = true then
      (zcI (zev r i_X5_lay 0 [some (.ref l1), some (.int (5 : Int32)), some (.int (0 : Int32)), some (.int (1 : Int32)), none] [] h1) fun v2 h2 =>
      if v2 = (1 : Int32) then
        if zob r h2 l1 5 = true then
        (zcI (zev r i_X5_judge 0 [some (.ref l1), some (.int (1 : Int32)), some (.int (1 : Int32)), none] [] h2) fun v3 h3 =>
        if zob r h3 l1 5 = true then
        (zcI (zev r i_X5_lay 0 [some (.ref l1), some (.int (5 : Int32)), some (.int (1 : Int32)), some (.int v3), none] [] h3) fun v4 h4 =>
        if v4 = (1 : Int32) then
          if zob r h4 l1 5 = true then
          (zcI (zev r i_X5_lay 0 [some (.ref l1), some (.int (5 : Int32)), some (.int (2 : Int32)), some (.int (2 : Int32)), none] [] h4) fun v5 h5 =>
          if v5 = (1 : Int32) then
            if zob r h5 l1 5 = true then
            (zcI (zev r i_X5_judge 0 [some (.ref l1), some (.int (1 : Int32)), some (.int (2 : Int32)), none] [] h5) fun v6 h6 =>
            if zob r h6 l1 5 = true then
            (zcI (zev r i_X5_lay 0 [some (.ref l1), some (.int (5 : Int32)), some (.int (3 : Int32)), some (.int v6), none] [] h6) fun v7 h7 =>
            if v7 = (1 : Int32) then
              if zob r h7 l1 5 = true then
              (zcI (zev r i_X5_fits 0 [some (.ref l1), some (.int (5 : Int32)), none, none] [] h7) fun v8 h8 =>
              if v8 = (1 : Int32) then
                if zob r h8 l1 5 = true then
                (zcL (zev r i_X5_upper 0 [some (.ref l1)] [] h8) fun v9 h9 =>
                if (lg_cmp v9 (1 : Int64)) < 0 then
                  some (some (.int (0 : Int32)), h9)
                else
                  if zob r h9 l1 5 = true then
                  (zcL (zev r i_X5_lower 0 [some (.ref l1)] [] h9) fun v10 h10 =>
                  if (lg_cmp v10 (1 : Int64)) = 0 then
                    if zob r h10 l1 5 = true then
                    (zcI (zev r i_X5_asked 0 [some (.ref l1)] [] h10) fun v11 h11 =>
                    if zob r h11 l1 5 = true then
                    (zcL (zev r i_X5_upper 0 [some (.ref l1)] [] h11) fun v12 h12 =>
                    if v11 = (-9 : Int32) then
                      if (lg_cmp v12 (1 : Int64)) = 0 then
                        if v11 = (-9 : Int32) then
                          some (some (.int (0 : Int32)), h12)
                        else
                          zev r i_L_law 1830 [some (.ref l0), some (.ref l1), some (.ref l2), some (.ref l3), some (.int l4), some (.long l5), none, some (.int l7), some (.int l8), some (.int l9), some (.int l10), some (.long l11), none, some (.int l13), some (.int l14), some (.int l15), some (.int l16), some (.int l17), some (.int l18), some (.int l19), some (.int l20), some (.int l21), some (.int l22), some (.int l23), some (.int l24), some (.int v11), some (.long v12), none, none] [] h12
                      else
                        zev r i_L_law 1830 [some (.ref l0), some (.ref l1), some (.ref l2), some (.ref l3), some (.int l4), some (.long l5), none, some (.int l7), some (.int l8), some (.int l9), some (.int l10), some (.long l11), none, some (.int l13), some (.int l14), some (.int l15), some (.int l16), some (.int l17), some (.int l18), some (.int l19), some (.int l20), some (.int l21), some (.int l22), some (.int l23), some (.int l24), some (.int v11), some (.long v12), none, none] [] h12
                    else
                      if zob r h12 l1 5 = true then
                      (zcI (zev r i_X5_at 0 [some (.ref l1), some (.int (1 : Int32)), some (.int (0 : Int32)), none] [] h12) fun v13 h13 =>
                      if v13 = (1 : Int32) then
                        if zob r h13 l1 5 = true then
                        (zcI (zev r i_X5_asked 0 [some (.ref l1)] [] h13) fun v14 h14 =>
                        if v14 = v11 then
                          if (lg_cmp v12 (1 : Int64)) = 0 then
                            if v11 = (-9 : Int32) then
                              some (some (.int (0 : Int32)), h14)
                            else
                              zev r i_L_law 1830 [some (.ref l0), some (.ref l1), some (.ref l2), some (.ref l3), some (.int l4), some (.long l5), none, some (.int l7), some (.int l8), some (.int l9), some (.int l10), some (.long l11), none, some (.int l13), some (.int l14), some (.int l15), some (.int l16), some (.int l17), some (.int l18), some (.int l19), some (.int l20), some (.int l21), some (.int l22), some (.int l23), some (.int l24), some (.int v11), some (.long v12), none, none] [] h14
                          else
                            zev r i_L_law 1830 [some (.ref l0), some (.ref l1), some (.ref l2), some (.ref l3), some (.int l4), some (.long l5), none, some (.int l7), some (.int l8), some (.int l9), some (.int l10), some (.long l11), none, some (.int l13), some (.int l14), some (.int l15), some (.int l16), some (.int l17), some (.int l18), some (.int l19), some (.int l20), some (.int l21), some (.int l22), some (.int l23), some (.int l24), some (.int v11), some (.long v12), none, none] [] h14
                        else
                          some (some (.int (0 : Int32)), h14))
                        else none
                      else
                        some (some (.int (0 : Int32)), h13))
                      else none)
                    else none)
                    else none
                  else
                    some (some (.int (0 : Int32)), h10))
                  else none)
                else none
              else
                some (some (.int (0 : Int32)), h8))
              else none
            else
              some (some (.int (0 : Int32)), h7))
            else none)
            else none
          else
            some (some (.int (0 : Int32)), h5))
          else none
        else
          some (some (.int (0 : Int32)), h4))
        else none)
        else none
      else
        some (some (.int (0 : Int32)), h2))
      else none
    else
      some (some (.int (0 : Int32)), h1))
    else none) := zblk r [54, 90, 118, 202, 220, 295, 341, 371, 435, 471, 512, 588, 677, 760, 816, 864, 877, 941, 1001, 1032, 1068, 1126, 1150, 1381, 1521, 1558, 1584, 1628, 1685, 1830, 2021] 1087 _ _ _ _ _
set_option maxHeartbeats 4000000 in
set_option maxRecDepth 100000 in
theorem E_L_law_435 (r : zE) (h : zH) (l0 : Nat) (l1 : Nat) (l2 : Nat) (l3 : Nat) (l4 : Int32) (l5 : Int64) (l7 : Int32) (l8 : Int32) (l9 : Int32) (l10 : Int32) (l11 : Int64) (l13 : Int32) (l14 : Int32) (l15 : Int32) (l16 : Int32) (l17 : Int32) (l18 : Int32) (l19 : Int32) (l20 : Int32) (l21 : Int32) (l22 : Int32) : zev r i_L_law 435 [some (.ref l0), some (.ref l1), some (.ref l2), some (.ref l3), some (.int l4), some (.long l5), none, some (.int l7), some (.int l8), some (.int l9), some (.int l10), some (.long l11), none, some (.int l13), some (.int l14), some (.int l15), some (.int l16), some (.int l17), some (.int l18), some (.int l19), some (.int l20), some (.int l21), some (.int l22), none, none, none, none, none, none] [] h =
    (if l22 = 0 then
      zev r i_L_law 371 [some (.ref l0), some (.ref l1), some (.ref l2), some (.ref l3), some (.int l4), some (.long l5), none, some (.int l7), some (.int l8), some (.int l9), some (.int l10), some (.long l11), none, some (.int l13), some (.int l14), some (.int l15), some (.int l16), some (.int l17), some (.int l18), some (.int l19), some (.int l20), some (.int (l21 + (1 : Int32))), none, none, none, none, none, none, none] [] h
    else
      if zob r h l1 5 = true then
      (zcI (zev r i_X5_neighbours 0 [some (.ref l1), some (.int l21), some (.int l13)] [] h) fun v1 h1 =>
      if ((l18 >>> (l21 &&& 31)) &&& (1 : Int32)) = ((v1 >>> (l17 &&& 31)) &&& (1 : Int32)) then
        zev r i_L_law 371 [some (.ref l0), some (.ref l1), some (.ref l2), some (.ref l3), some (.int l4), some (.long l5), none, some (.int l7), some (.int l8), some (.int l9), some (.int l10), some (.long l11), none, some (.int l13), some (.int l14), some (.int l15), some (.int l16), some (.int l17), some (.int l18), some (.int l19), some (.int l20), some (.int (l21 + (1 : Int32))), none, none, none, none, none, none, none] [] h1
      else
        some (some (.int (0 : Int32)), h1))
      else none) := zblk r [54, 90, 118, 202, 220, 295, 341, 371, 435, 471, 512, 588, 677, 760, 816, 864, 877, 941, 1001, 1032, 1068, 1126, 1150, 1381, 1521, 1558, 1584, 1628, 1685, 1830, 2021] 1087 _ _ _ _ _
set_option maxHeartbeats 4000000 in
set_option maxRecDepth 100000 in
theorem E_L_law_471 (r : zE) (h : zH) (l0 : Nat) (l1 : Nat) (l2 : Nat) (l3 : Nat) (l4 : Int32) (l5 : Int64) (l7 : Int32) (l8 : Int32) (l9 : Int32) (l10 : Int32) (l11 : Int64) (l13 : Int32) (l14 : Int32) (l15 : Int32) (l16 : Int32) (l17 : Int32) (l18 : Int32) (l19 : Int32) (l20 : Int32) (l21 : Int32) : zev r i_L_law 471 [some (.ref l0), some (.ref l1), some (.ref l2), some (.ref l3), some (.int l4), some (.long l5), none, some (.int l7), some (.int l8), some (.int l9), some (.int l10), some (.long l11), none, some (.int l13), some (.int l14), some (.int l15), some (.int l16), some (.int l17), some (.int l18), some (.int l19), some (.int l20), some (.int l21), none, none, none, none, none, none, none] [] h =
    (if zob r h l1 5 = true then
    (zcI (zev r i_X5_by 0 [some (.ref l1), some (.int l17), some (.int l13), none, none, none, none, none] [] h) fun v1 h1 =>
    if zob r h1 l1 5 = true then
    (zcI (zev r i_X5_asked 0 [some (.ref l1)] [] h1) fun v2 h2 =>
    if v1 < 0 then
      if l20 = 0 then
        zev r i_L_law 512 [some (.ref l0), some (.ref l1), some (.ref l2), some (.ref l3), some (.int l4), some (.long l5), none, some (.int l7), some (.int l8), some (.int l9), some (.int l10), some (.long l11), none, some (.int l13), some (.int l14), some (.int l15), some (.int l16), some (.int l17), some (.int l18), some (.int l19), some (.int l20), some (.int v1), some (.int v2), none, none, none, none, none, none] [.int (0 : Int32), .int (0 : Int32)] h2
      else
        if l18 = 0 then
          zev r i_L_law 512 [some (.ref l0), some (.ref l1), some (.ref l2), some (.ref l3), some (.int l4), some (.long l5), none, some (.int l7), some (.int l8), some (.int l9), some (.int l10), some (.long l11), none, some (.int l13), some (.int l14), some (.int l15), some (.int l16), some (.int l17), some (.int l18), some (.int l19), some (.int l20), some (.int v1), some (.int v2), none, none, none, none, none, none] [.int (0 : Int32), .int (0 : Int32)] h2
        else
          zev r i_L_law 512 [some (.ref l0), some (.ref l1), some (.ref l2), some (.ref l3), some (.int l4), some (.long l5), none, some (.int l7), some (.int l8), some (.int l9), some (.int l10), some (.long l11), none, some (.int l13), some (.int l14), some (.int l15), some (.int l16), some (.int l17), some (.int l18), some (.int l19), some (.int l20), some (.int v1), some (.int v2), none, none, none, none, none, none] [.int (1 : Int32), .int (0 : Int32)] h2
    else
      if l20 = 0 then
        zev r i_L_law 512 [some (.ref l0), some (.ref l1), some (.ref l2), some (.ref l3), some (.int l4), some (.long l5), none, some (.int l7), some (.int l8), some (.int l9), some (.int l10), some (.long l11), none, some (.int l13), some (.int l14), some (.int l15), some (.int l16), some (.int l17), some (.int l18), some (.int l19), some (.int l20), some (.int v1), some (.int v2), none, none, none, none, none, none] [.int (0 : Int32), .int (1 : Int32)] h2
      else
        if l18 = 0 then
          zev r i_L_law 512 [some (.ref l0), some (.ref l1), some (.ref l2), some (.ref l3), some (.int l4), some (.long l5), none, some (.int l7), some (.int l8), some (.int l9), some (.int l10), some (.long l11), none, some (.int l13), some (.int l14), some (.int l15), some (.int l16), some (.int l17), some (.int l18), some (.int l19), some (.int l20), some (.int v1), some (.int v2), none, none, none, none, none, none] [.int (0 : Int32), .int (1 : Int32)] h2
        else
          zev r i_L_law 512 [some (.ref l0), some (.ref l1), some (.ref l2), some (.ref l3), some (.int l4), some (.long l5), none, some (.int l7), some (.int l8), some (.int l9), some (.int l10), some (.long l11), none, some (.int l13), some (.int l14), some (.int l15), some (.int l16), some (.int l17), some (.int l18), some (.int l19), some (.int l20), some (.int v1), some (.int v2), none, none, none, none, none, none] [.int (1 : Int32), .int (1 : Int32)] h2)
    else none)
    else none) := zblk r [54, 90, 118, 202, 220, 295, 341, 371, 435, 471, 512, 588, 677, 760, 816, 864, 877, 941, 1001, 1032, 1068, 1126, 1150, 1381, 1521, 1558, 1584, 1628, 1685, 1830, 2021] 1087 _ _ _ _ _
set_option maxHeartbeats 4000000 in
set_option maxRecDepth 100000 in
theorem E_L_law_877 (r : zE) (h : zH) (l0 : Nat) (l1 : Nat) (l2 : Nat) (l3 : Nat) (l4 : Int32) (l5 : Int64) (l7 : Int32) (l8 : Int32) (l9 : Int32) (l10 : Int32) (l11 : Int64) (l13 : Int32) (l14 : Int32) (l15 : Int32) (l16 : Int32) (l17 : Int32) (l18 : Int32) (l19 : Int32) (l20 : Int32) (l21 : Int32) (l22 : Int32) : zev r i_L_law 877 [some (.ref l0), some (.ref l1), some (.ref l2), some (.ref l3), some (.int l4), some (.long l5), none, some (.int l7), some (.int l8), some (.int l9), some (.int l10), some (.long l11), none, some (.int l13), some (.int l14), some (.int l15), some (.int l16), some (.int l17), some (.int l18), some (.int l19), some (.int l20), some (.int l21), some (.int l22), none, none, none, none, none, none] [] h =
    (if l22 < l4 then
      if zob r h l1 5 = true then
      (zcI (zev r i_X5_gain 0 [some (.ref l1), some (.int l21), some (.int l22), some (.int l13)] [] h) fun v1 h1 =>
      if zob r h1 l1 5 = true then
      (zcI (zev r i_X5_woken 0 [some (.ref l1), some (.int l21), some (.int l13)] [] h1) fun v2 h2 =>
      if zob r h2 l1 5 = true then
      (zcI (zev r i_X5_woken 0 [some (.ref l1), some (.int l22), some (.int l13)] [] h2) fun v3 h3 =>
      zcI (zev r i_L_told 0 [some (.ref l1), some (.int l21), some (.int (4 : Int32))] [] h3) fun v4 h4 =>
      if v4 < 0 then
        zcI (zev r i_L_told 0 [some (.ref l1), some (.int l22), some (.int (4 : Int32))] [] h4) fun v5 h5 =>
        if v5 < 0 then
          zev r i_L_law 941 [some (.ref l0), some (.ref l1), some (.ref l2), some (.ref l3), some (.int l4), some (.long l5), none, some (.int l7), some (.int l8), some (.int l9), some (.int l10), some (.long l11), none, some (.int l13), some (.int l14), some (.int l15), some (.int l16), some (.int l17), some (.int l18), some (.int l19), some (.int l20), some (.int l21), some (.int l22), some (.int v1), some (.int v2), some (.int v3), none, none, none] [.int (0 : Int32)] h5
        else
          zev r i_L_law 941 [some (.ref l0), some (.ref l1), some (.ref l2), some (.ref l3), some (.int l4), some (.long l5), none, some (.int l7), some (.int l8), some (.int l9), some (.int l10), some (.long l11), none, some (.int l13), some (.int l14), some (.int l15), some (.int l16), some (.int l17), some (.int l18), some (.int l19), some (.int l20), some (.int l21), some (.int l22), some (.int v1), some (.int v2), some (.int v3), none, none, none] [.int (1 : Int32)] h5
      else
        zev r i_L_law 941 [some (.ref l0), some (.ref l1), some (.ref l2), some (.ref l3), some (.int l4), some (.long l5), none, some (.int l7), some (.int l8), some (.int l9), some (.int l10), some (.long l11), none, some (.int l13), some (.int l14), some (.int l15), some (.int l16), some (.int l17), some (.int l18), some (.int l19), some (.int l20), some (.int l21), some (.int l22), some (.int v1), some (.int v2), some (.int v3), none, none, none] [.int (1 : Int32)] h4)
      else none)
      else none)
      else none
    else
      zev r i_L_law 864 [some (.ref l0), some (.ref l1), some (.ref l2), some (.ref l3), some (.int l4), some (.long l5), none, some (.int l7), some (.int l8), some (.int l9), some (.int l10), some (.long l11), none, some (.int l13), some (.int l14), some (.int l15), some (.int l16), some (.int l17), some (.int l18), some (.int l19), some (.int l20), some (.int (l21 + (1 : Int32))), none, none, none, none, none, none, none] [] h) := zblk r [54, 90, 118, 202, 220, 295, 341, 371, 435, 471, 512, 588, 677, 760, 816, 864, 877, 941, 1001, 1032, 1068, 1126, 1150, 1381, 1521, 1558, 1584, 1628, 1685, 1830, 2021] 1087 _ _ _ _ _
set_option maxHeartbeats 4000000 in
set_option maxRecDepth 100000 in
theorem E_L_law_1628 (r : zE) (h : zH) (l0 : Nat) (l1 : Nat) (l2 : Nat) (l3 : Nat) (l4 : Int32) (l5 : Int64) (l7 : Int32) (l8 : Int32) (l9 : Int32) (l10 : Int32) (l11 : Int64) (l13 : Int32) (l14 : Int32) (l15 : Int32) (l16 : Int32) (l17 : Int32) (l18 : Int32) (l19 : Int32) (l20 : Int32) (l21 : Int32) (l22 : Int32) (l23 : Int32) (l24 : Int32) (l25 : Int32) : zev r i_L_law 1628 [some (.ref l0), some (.ref l1), some (.ref l2), some (.ref l3), some (.int l4), some (.long l5), none, some (.int l7), some (.int l8), some (.int l9), some (.int l10), some (.long l11), none, some (.int l13), some (.int l14), some (.int l15), some (.int l16), some (.int l17), some (.int l18), some (.int l19), some (.int l20), some (.int l21), some (.int l22), some (.int l23), some (.int l24), some (.int l25), none, none, none] [] h =
    (zcI (zev r i_L_told 0 [some (.ref l1), some (.int l24), some (.int (4 : Int32))] [] h) fun v1 h1 =>
    if v1 < 0 then
      some (some (.int (0 : Int32)), h1)
    else
      zev r i_L_law 1558 [some (.ref l0), some (.ref l1), some (.ref l2), some (.ref l3), some (.int l4), some (.long l5), none, some (.int l7), some (.int l8), some (.int l9), some (.int l10), some (.long l11), none, some (.int l13), some (.int l14), some (.int l15), some (.int l16), some (.int l17), some (.int l18), some (.int l19), some (.int l20), some (.int l21), some (.int l22), some (.int (l23 ||| ((1 : Int32) <<< (l24 &&& 31)))), some (.int l24), some (.int (l25 + (1 : Int32))), none, none, none] [] h1) := zblk r [54, 90, 118, 202, 220, 295, 341, 371, 435, 471, 512, 588, 677, 760, 816, 864, 877, 941, 1001, 1032, 1068, 1126, 1150, 1381, 1521, 1558, 1584, 1628, 1685, 1830, 2021] 1087 _ _ _ _ _
set_option maxHeartbeats 4000000 in
set_option maxRecDepth 100000 in
theorem E_L_law_1830 (r : zE) (h : zH) (l0 : Nat) (l1 : Nat) (l2 : Nat) (l3 : Nat) (l4 : Int32) (l5 : Int64) (l7 : Int32) (l8 : Int32) (l9 : Int32) (l10 : Int32) (l11 : Int64) (l13 : Int32) (l14 : Int32) (l15 : Int32) (l16 : Int32) (l17 : Int32) (l18 : Int32) (l19 : Int32) (l20 : Int32) (l21 : Int32) (l22 : Int32) (l23 : Int32) (l24 : Int32) (l25 : Int32) (l26 : Int64) : zev r i_L_law 1830 [some (.ref l0), some (.ref l1), some (.ref l2), some (.ref l3), some (.int l4), some (.long l5), none, some (.int l7), some (.int l8), some (.int l9), some (.int l10), some (.long l11), none, some (.int l13), some (.int l14), some (.int l15), some (.int l16), some (.int l17), some (.int l18), some (.int l19), some (.int l20), some (.int l21), some (.int l22), some (.int l23), some (.int l24), some (.int l25), some (.long l26), none, none] [] h =
    (if zob r h l1 5 = true then
    (zcI (zev r i_X5_row 0 [some (.ref l1), some (.int (5 : Int32)), some (.int (2 : Int32))] [] h) fun v1 h1 =>
    if v1 = (2 : Int32) then
      if zob r h1 l1 5 = true then
      (zcI (zev r i_X5_lay 0 [some (.ref l1), some (.int (5 : Int32)), some (.int (0 : Int32)), some (.int (1 : Int32)), none] [] h1) fun v2 h2 =>
      if v2 = (1 : Int32) then
        if zob r h2 l1 5 = true then
        (zcI (zev r i_X5_judge 0 [some (.ref l1), some (.int (1 : Int32)), some (.int (1 : Int32)), none] [] h2) fun v3 h3 =>
        if zob r h3 l1 5 = true then
        (zcI (zev r i_X5_lay 0 [some (.ref l1), some (.int (5 : Int32)), some (.int (1 : Int32)), some (.int v3), none] [] h3) fun v4 h4 =>
        if v4 = (1 : Int32) then
          if zob r h4 l1 5 = true then
          (zcI (zev r i_X5_fits 0 [some (.ref l1), some (.int (5 : Int32)), none, none] [] h4) fun v5 h5 =>
          if v5 = (1 : Int32) then
            if zob r h5 l1 5 = true then
            (zcL (zev r i_X5_upper 0 [some (.ref l1)] [] h5) fun v6 h6 =>
            if (lg_cmp v6 l26) < 0 then
              some (some (.int (0 : Int32)), h6)
            else
              if zob r h6 l1 5 = true then
              (zcI (zev r i_X5_lots 0 [some (.ref l1), some (.int (2 : Int32)), some (.int ((1 : Int32) + (l8 &&& (16777215 : Int32)))), none, none, none, none] [] h6) fun v7 h7 =>
              if v7 < 0 then
                some (some (.int (0 : Int32)), h7)
              else
                if zob r h7 l1 5 = true then
                (zcI (zev r i_X5_count 0 [some (.ref l1), some (.int (2 : Int32))] [] h7) fun v8 h8 =>
                if v8 = (l10 + (2 : Int32)) then
                  if zob r h8 l1 5 = true then
                  (zcI (zev r i_X5_undo 0 [some (.ref l1), some (.int l10), none] [] h8) fun v9 h9 =>
                  if v9 = (2 : Int32) then
                    if zob r h9 l1 5 = true then
                    (zcI (zev r i_X5_count 0 [some (.ref l1), some (.int (2 : Int32))] [] h9) fun v10 h10 =>
                    if v10 = l10 then
                      if zob r h10 l1 5 = true then
                      (zcI (zev r i_X5_count 0 [some (.ref l1), some (.int (3 : Int32))] [] h10) fun v11 h11 =>
                      if v11 = l9 then
                        zev r i_L_law 54 [some (.ref l0), some (.ref l1), some (.ref l2), some (.ref l3), some (.int l4), some (.long l5), none, some (.int (l7 + (1 : Int32))), none, none, none, none, none, none, none, none, none, none, none, none, none, none, none, none, none, none, none, none, none] [] h11
                      else
                        some (some (.int (0 : Int32)), h11))
                      else none
                    else
                      some (some (.int (0 : Int32)), h10))
                    else none
                  else
                    some (some (.int (0 : Int32)), h9))
                  else none
                else
                  some (some (.int (0 : Int32)), h8))
                else none)
              else none)
            else none
          else
            some (some (.int (0 : Int32)), h5))
          else none
        else
          some (some (.int (0 : Int32)), h4))
        else none)
        else none
      else
        some (some (.int (0 : Int32)), h2))
      else none
    else
      some (some (.int (0 : Int32)), h1))
    else none) := zblk r [54, 90, 118, 202, 220, 295, 341, 371, 435, 471, 512, 588, 677, 760, 816, 864, 877, 941, 1001, 1032, 1068, 1126, 1150, 1381, 1521, 1558, 1584, 1628, 1685, 1830, 2021] 1087 _ _ _ _ _
set_option maxHeartbeats 4000000 in
set_option maxRecDepth 100000 in
theorem E_L_law_512 (r : zE) (h : zH) (l0 : Nat) (l1 : Nat) (l2 : Nat) (l3 : Nat) (l4 : Int32) (l5 : Int64) (l7 : Int32) (l8 : Int32) (l9 : Int32) (l10 : Int32) (l11 : Int64) (l13 : Int32) (l14 : Int32) (l15 : Int32) (l16 : Int32) (l17 : Int32) (l18 : Int32) (l19 : Int32) (l20 : Int32) (l21 : Int32) (l22 : Int32) (s0 : Int32) (s1 : Int32) : zev r i_L_law 512 [some (.ref l0), some (.ref l1), some (.ref l2), some (.ref l3), some (.int l4), some (.long l5), none, some (.int l7), some (.int l8), some (.int l9), some (.int l10), some (.long l11), none, some (.int l13), some (.int l14), some (.int l15), some (.int l16), some (.int l17), some (.int l18), some (.int l19), some (.int l20), some (.int l21), some (.int l22), none, none, none, none, none, none] [.int s0, .int s1] h =
    (if s1 = s0 then
      if l21 < 0 then
        zev r i_L_law 588 [some (.ref l0), some (.ref l1), some (.ref l2), some (.ref l3), some (.int l4), some (.long l5), none, some (.int l7), some (.int l8), some (.int l9), some (.int l10), some (.long l11), none, some (.int l13), some (.int l14), some (.int l15), some (.int l16), some (.int l17), some (.int l18), some (.int l19), some (.int l20), some (.int l21), some (.int l22), none, none, none, none, none, none] [] h
      else
        if ((l18 >>> (l21 &&& 31)) &&& (1 : Int32)) = (1 : Int32) then
          if l22 < 0 then
            some (some (.int (0 : Int32)), h)
          else
            if zob r h l1 5 = true then
            (zcI (zev r i_X5_down 0 [some (.ref l1), some (.int l21), none] [] h) fun v1 h1 =>
            if v1 < 0 then
              some (some (.int (0 : Int32)), h1)
            else
              if zob r h1 l1 5 = true then
              (zcI (zev r i_X5_woken 0 [some (.ref l1), some (.int l17), some (.int l13)] [] h1) fun v2 h2 =>
              if v2 = (l19 - l22) then
                if zob r h2 l1 5 = true then
                (zcI (zev r i_X5_undo 0 [some (.ref l1), some (.int l10), none] [] h2) fun v3 h3 =>
                if v3 = (1 : Int32) then
                  if zob r h3 l1 5 = true then
                  (zcI (zev r i_X5_woken 0 [some (.ref l1), some (.int l17), some (.int l13)] [] h3) fun v4 h4 =>
                  if v4 = l19 then
                    zev r i_L_law 588 [some (.ref l0), some (.ref l1), some (.ref l2), some (.ref l3), some (.int l4), some (.long l5), none, some (.int l7), some (.int l8), some (.int l9), some (.int l10), some (.long l11), none, some (.int l13), some (.int l14), some (.int l15), some (.int l16), some (.int l17), some (.int l18), some (.int l19), some (.int l20), some (.int l21), some (.int l22), none, none, none, none, none, none] [] h4
                  else
                    some (some (.int (0 : Int32)), h4))
                  else none
                else
                  some (some (.int (0 : Int32)), h3))
                else none
              else
                some (some (.int (0 : Int32)), h2))
              else none)
            else none
        else
          some (some (.int (0 : Int32)), h)
    else
      some (some (.int (0 : Int32)), h)) := zblk r [54, 90, 118, 202, 220, 295, 341, 371, 435, 471, 512, 588, 677, 760, 816, 864, 877, 941, 1001, 1032, 1068, 1126, 1150, 1381, 1521, 1558, 1584, 1628, 1685, 1830, 2021] 1087 _ _ _ _ _
set_option maxHeartbeats 4000000 in
set_option maxRecDepth 100000 in
theorem E_L_law_941 (r : zE) (h : zH) (l0 : Nat) (l1 : Nat) (l2 : Nat) (l3 : Nat) (l4 : Int32) (l5 : Int64) (l7 : Int32) (l8 : Int32) (l9 : Int32) (l10 : Int32) (l11 : Int64) (l13 : Int32) (l14 : Int32) (l15 : Int32) (l16 : Int32) (l17 : Int32) (l18 : Int32) (l19 : Int32) (l20 : Int32) (l21 : Int32) (l22 : Int32) (l23 : Int32) (l24 : Int32) (l25 : Int32) (s0 : Int32) : zev r i_L_law 941 [some (.ref l0), some (.ref l1), some (.ref l2), some (.ref l3), some (.int l4), some (.long l5), none, some (.int l7), some (.int l8), some (.int l9), some (.int l10), some (.long l11), none, some (.int l13), some (.int l14), some (.int l15), some (.int l16), some (.int l17), some (.int l18), some (.int l19), some (.int l20), some (.int l21), some (.int l22), some (.int l23), some (.int l24), some (.int l25), none, none, none] [.int s0] h =
    (zcI (zev r i_L_told 0 [some (.ref l1), some (.int l21), some (.int (4 : Int32))] [] h) fun v1 h1 =>
    if v1 < 0 then
      zev r i_L_law 1001 [some (.ref l0), some (.ref l1), some (.ref l2), some (.ref l3), some (.int l4), some (.long l5), none, some (.int l7), some (.int l8), some (.int l9), some (.int l10), some (.long l11), none, some (.int l13), some (.int l14), some (.int l15), some (.int l16), some (.int l17), some (.int l18), some (.int l19), some (.int l20), some (.int l21), some (.int l22), some (.int l23), some (.int l24), some (.int l25), some (.int s0), none, none] [.int (0 : Int32)] h1
    else
      zcI (zev r i_L_told 0 [some (.ref l1), some (.int l22), some (.int (4 : Int32))] [] h1) fun v2 h2 =>
      if v2 < 0 then
        zev r i_L_law 1001 [some (.ref l0), some (.ref l1), some (.ref l2), some (.ref l3), some (.int l4), some (.long l5), none, some (.int l7), some (.int l8), some (.int l9), some (.int l10), some (.long l11), none, some (.int l13), some (.int l14), some (.int l15), some (.int l16), some (.int l17), some (.int l18), some (.int l19), some (.int l20), some (.int l21), some (.int l22), some (.int l23), some (.int l24), some (.int l25), some (.int s0), none, none] [.int (0 : Int32)] h2
      else
        if l13 = 0 then
          zev r i_L_law 1001 [some (.ref l0), some (.ref l1), some (.ref l2), some (.ref l3), some (.int l4), some (.long l5), none, some (.int l7), some (.int l8), some (.int l9), some (.int l10), some (.long l11), none, some (.int l13), some (.int l14), some (.int l15), some (.int l16), some (.int l17), some (.int l18), some (.int l19), some (.int l20), some (.int l21), some (.int l22), some (.int l23), some (.int l24), some (.int l25), some (.int s0), none, none] [.int (1 : Int32)] h2
        else
          zcI (zev r i_L_told 0 [some (.ref l1), some (.int l21), some (.int (2 : Int32))] [] h2) fun v3 h3 =>
          if v3 = (l13 - (1 : Int32)) then
            zev r i_L_law 1001 [some (.ref l0), some (.ref l1), some (.ref l2), some (.ref l3), some (.int l4), some (.long l5), none, some (.int l7), some (.int l8), some (.int l9), some (.int l10), some (.long l11), none, some (.int l13), some (.int l14), some (.int l15), some (.int l16), some (.int l17), some (.int l18), some (.int l19), some (.int l20), some (.int l21), some (.int l22), some (.int l23), some (.int l24), some (.int l25), some (.int s0), none, none] [.int (0 : Int32)] h3
          else
            zcI (zev r i_L_told 0 [some (.ref l1), some (.int l22), some (.int (2 : Int32))] [] h3) fun v4 h4 =>
            if v4 = (l13 - (1 : Int32)) then
              zev r i_L_law 1001 [some (.ref l0), some (.ref l1), some (.ref l2), some (.ref l3), some (.int l4), some (.long l5), none, some (.int l7), some (.int l8), some (.int l9), some (.int l10), some (.long l11), none, some (.int l13), some (.int l14), some (.int l15), some (.int l16), some (.int l17), some (.int l18), some (.int l19), some (.int l20), some (.int l21), some (.int l22), some (.int l23), some (.int l24), some (.int l25), some (.int s0), none, none] [.int (0 : Int32)] h4
            else
              zev r i_L_law 1001 [some (.ref l0), some (.ref l1), some (.ref l2), some (.ref l3), some (.int l4), some (.long l5), none, some (.int l7), some (.int l8), some (.int l9), some (.int l10), some (.long l11), none, some (.int l13), some (.int l14), some (.int l15), some (.int l16), some (.int l17), some (.int l18), some (.int l19), some (.int l20), some (.int l21), some (.int l22), some (.int l23), some (.int l24), some (.int l25), some (.int s0), none, none] [.int (1 : Int32)] h4) := zblk r [54, 90, 118, 202, 220, 295, 341, 371, 435, 471, 512, 588, 677, 760, 816, 864, 877, 941, 1001, 1032, 1068, 1126, 1150, 1381, 1521, 1558, 1584, 1628, 1685, 1830, 2021] 1087 _ _ _ _ _
set_option maxHeartbeats 4000000 in
set_option maxRecDepth 100000 in
theorem E_L_law_588 (r : zE) (h : zH) (l0 : Nat) (l1 : Nat) (l2 : Nat) (l3 : Nat) (l4 : Int32) (l5 : Int64) (l7 : Int32) (l8 : Int32) (l9 : Int32) (l10 : Int32) (l11 : Int64) (l13 : Int32) (l14 : Int32) (l15 : Int32) (l16 : Int32) (l17 : Int32) (l18 : Int32) (l19 : Int32) (l20 : Int32) (l21 : Int32) (l22 : Int32) : zev r i_L_law 588 [some (.ref l0), some (.ref l1), some (.ref l2), some (.ref l3), some (.int l4), some (.long l5), none, some (.int l7), some (.int l8), some (.int l9), some (.int l10), some (.long l11), none, some (.int l13), some (.int l14), some (.int l15), some (.int l16), some (.int l17), some (.int l18), some (.int l19), some (.int l20), some (.int l21), some (.int l22), none, none, none, none, none, none] [] h =
    (if zob r h l1 5 = true then
    (zcI (zev r i_X5_cut 0 [some (.ref l1), some (.int l17), some (.int l13), none, none, none, none] [] h) fun v1 h1 =>
    if zob r h1 l1 5 = true then
    (zcI (zev r i_X5_asked 0 [some (.ref l1)] [] h1) fun v2 h2 =>
    if zob r h2 l1 5 = true then
    (zcI (zev r i_X5_all 0 [some (.ref l1), some (.int l13)] [] h2) fun v3 h3 =>
    if v1 < (1 : Int32) then
      some (some (.int (0 : Int32)), h3)
    else
      if (9 : Int32) < v1 then
        some (some (.int (0 : Int32)), h3)
      else
        if v3 < v2 then
          some (some (.int (0 : Int32)), h3)
        else
          zcI (zev r i_L_told 0 [some (.ref l1), some (.int l17), some (.int (1 : Int32))] [] h3) fun v4 h4 =>
          if v1 = v4 then
            zev r i_L_law 677 [some (.ref l0), some (.ref l1), some (.ref l2), some (.ref l3), some (.int l4), some (.long l5), none, some (.int l7), some (.int l8), some (.int l9), some (.int l10), some (.long l11), none, some (.int l13), some (.int l14), some (.int l15), some (.int l16), some (.int l17), some (.int l18), some (.int l19), some (.int l20), some (.int l21), some (.int l22), some (.int v1), some (.int v2), some (.int v3), none, none, none] [] h4
          else
            if zob r h4 l1 5 = true then
            (zcI (zev r i_X5_line 0 [some (.ref l1), some (.int l17), some (.int v1), none] [] h4) fun v5 h5 =>
            if v5 < (1 : Int32) then
              some (some (.int (0 : Int32)), h5)
            else
              if zob r h5 l1 5 = true then
              (zcI (zev r i_X5_all 0 [some (.ref l1), some (.int l13)] [] h5) fun v6 h6 =>
              if v6 = v2 then
                if zob r h6 l1 5 = true then
                (zcI (zev r i_X5_undo 0 [some (.ref l1), some (.int l10), none] [] h6) fun v7 h7 =>
                if v7 = (1 : Int32) then
                  zev r i_L_law 677 [some (.ref l0), some (.ref l1), some (.ref l2), some (.ref l3), some (.int l4), some (.long l5), none, some (.int l7), some (.int l8), some (.int l9), some (.int l10), some (.long l11), none, some (.int l13), some (.int l14), some (.int l15), some (.int l16), some (.int l17), some (.int l18), some (.int l19), some (.int l20), some (.int l21), some (.int l22), some (.int v1), some (.int v2), some (.int v3), none, none, none] [] h7
                else
                  some (some (.int (0 : Int32)), h7))
                else none
              else
                some (some (.int (0 : Int32)), h6))
              else none)
            else none)
    else none)
    else none)
    else none) := zblk r [54, 90, 118, 202, 220, 295, 341, 371, 435, 471, 512, 588, 677, 760, 816, 864, 877, 941, 1001, 1032, 1068, 1126, 1150, 1381, 1521, 1558, 1584, 1628, 1685, 1830, 2021] 1087 _ _ _ _ _
set_option maxHeartbeats 4000000 in
set_option maxRecDepth 100000 in
theorem E_L_law_1001 (r : zE) (h : zH) (l0 : Nat) (l1 : Nat) (l2 : Nat) (l3 : Nat) (l4 : Int32) (l5 : Int64) (l7 : Int32) (l8 : Int32) (l9 : Int32) (l10 : Int32) (l11 : Int64) (l13 : Int32) (l14 : Int32) (l15 : Int32) (l16 : Int32) (l17 : Int32) (l18 : Int32) (l19 : Int32) (l20 : Int32) (l21 : Int32) (l22 : Int32) (l23 : Int32) (l24 : Int32) (l25 : Int32) (l26 : Int32) (s0 : Int32) : zev r i_L_law 1001 [some (.ref l0), some (.ref l1), some (.ref l2), some (.ref l3), some (.int l4), some (.long l5), none, some (.int l7), some (.int l8), some (.int l9), some (.int l10), some (.long l11), none, some (.int l13), some (.int l14), some (.int l15), some (.int l16), some (.int l17), some (.int l18), some (.int l19), some (.int l20), some (.int l21), some (.int l22), some (.int l23), some (.int l24), some (.int l25), some (.int l26), none, none] [.int s0] h =
    (if zob r h l1 5 = true then
    (zcI (zev r i_X5_gain 0 [some (.ref l1), some (.int l22), some (.int l21), some (.int l13)] [] h) fun v1 h1 =>
    if l23 = v1 then
      if l26 = 0 then
        if l23 = (100 : Int32) then
          zev r i_L_law 1032 [some (.ref l0), some (.ref l1), some (.ref l2), some (.ref l3), some (.int l4), some (.long l5), none, some (.int l7), some (.int l8), some (.int l9), some (.int l10), some (.long l11), none, some (.int l13), some (.int l14), some (.int l15), some (.int l16), some (.int l17), some (.int l18), some (.int l19), some (.int l20), some (.int l21), some (.int l22), some (.int l23), some (.int l24), some (.int l25), some (.int l26), some (.int s0), none] [] h1
        else
          some (some (.int (0 : Int32)), h1)
      else
        zev r i_L_law 1032 [some (.ref l0), some (.ref l1), some (.ref l2), some (.ref l3), some (.int l4), some (.long l5), none, some (.int l7), some (.int l8), some (.int l9), some (.int l10), some (.long l11), none, some (.int l13), some (.int l14), some (.int l15), some (.int l16), some (.int l17), some (.int l18), some (.int l19), some (.int l20), some (.int l21), some (.int l22), some (.int l23), some (.int l24), some (.int l25), some (.int l26), some (.int s0), none] [] h1
    else
      some (some (.int (0 : Int32)), h1))
    else none) := zblk r [54, 90, 118, 202, 220, 295, 341, 371, 435, 471, 512, 588, 677, 760, 816, 864, 877, 941, 1001, 1032, 1068, 1126, 1150, 1381, 1521, 1558, 1584, 1628, 1685, 1830, 2021] 1087 _ _ _ _ _
set_option maxHeartbeats 4000000 in
set_option maxRecDepth 100000 in
theorem E_L_law_677 (r : zE) (h : zH) (l0 : Nat) (l1 : Nat) (l2 : Nat) (l3 : Nat) (l4 : Int32) (l5 : Int64) (l7 : Int32) (l8 : Int32) (l9 : Int32) (l10 : Int32) (l11 : Int64) (l13 : Int32) (l14 : Int32) (l15 : Int32) (l16 : Int32) (l17 : Int32) (l18 : Int32) (l19 : Int32) (l20 : Int32) (l21 : Int32) (l22 : Int32) (l23 : Int32) (l24 : Int32) (l25 : Int32) : zev r i_L_law 677 [some (.ref l0), some (.ref l1), some (.ref l2), some (.ref l3), some (.int l4), some (.long l5), none, some (.int l7), some (.int l8), some (.int l9), some (.int l10), some (.long l11), none, some (.int l13), some (.int l14), some (.int l15), some (.int l16), some (.int l17), some (.int l18), some (.int l19), some (.int l20), some (.int l21), some (.int l22), some (.int l23), some (.int l24), some (.int l25), none, none, none] [] h =
    (zcI (zev r i_L_told 0 [some (.ref l1), some (.int l17), some (.int (1 : Int32))] [] h) fun v1 h1 =>
    if l23 = v1 then
      if l24 = l25 then
        zev r i_L_law 220 [some (.ref l0), some (.ref l1), some (.ref l2), some (.ref l3), some (.int l4), some (.long l5), none, some (.int l7), some (.int l8), some (.int l9), some (.int l10), some (.long l11), none, some (.int l13), some (.int l14), some (.int l15), some (.int l16), some (.int (l17 + (1 : Int32))), none, none, none, none, none, none, none, none, none, none, none] [] h1
      else
        some (some (.int (0 : Int32)), h1)
    else
      zev r i_L_law 220 [some (.ref l0), some (.ref l1), some (.ref l2), some (.ref l3), some (.int l4), some (.long l5), none, some (.int l7), some (.int l8), some (.int l9), some (.int l10), some (.long l11), none, some (.int l13), some (.int l14), some (.int l15), some (.int l16), some (.int (l17 + (1 : Int32))), none, none, none, none, none, none, none, none, none, none, none] [] h1) := zblk r [54, 90, 118, 202, 220, 295, 341, 371, 435, 471, 512, 588, 677, 760, 816, 864, 877, 941, 1001, 1032, 1068, 1126, 1150, 1381, 1521, 1558, 1584, 1628, 1685, 1830, 2021] 1087 _ _ _ _ _
set_option maxHeartbeats 4000000 in
set_option maxRecDepth 100000 in
theorem E_L_law_1032 (r : zE) (h : zH) (l0 : Nat) (l1 : Nat) (l2 : Nat) (l3 : Nat) (l4 : Int32) (l5 : Int64) (l7 : Int32) (l8 : Int32) (l9 : Int32) (l10 : Int32) (l11 : Int64) (l13 : Int32) (l14 : Int32) (l15 : Int32) (l16 : Int32) (l17 : Int32) (l18 : Int32) (l19 : Int32) (l20 : Int32) (l21 : Int32) (l22 : Int32) (l23 : Int32) (l24 : Int32) (l25 : Int32) (l26 : Int32) (l27 : Int32) : zev r i_L_law 1032 [some (.ref l0), some (.ref l1), some (.ref l2), some (.ref l3), some (.int l4), some (.long l5), none, some (.int l7), some (.int l8), some (.int l9), some (.int l10), some (.long l11), none, some (.int l13), some (.int l14), some (.int l15), some (.int l16), some (.int l17), some (.int l18), some (.int l19), some (.int l20), some (.int l21), some (.int l22), some (.int l23), some (.int l24), some (.int l25), some (.int l26), some (.int l27), none] [] h =
    (if l26 = 0 then
      zev r i_L_law 1068 [some (.ref l0), some (.ref l1), some (.ref l2), some (.ref l3), some (.int l4), some (.long l5), none, some (.int l7), some (.int l8), some (.int l9), some (.int l10), some (.long l11), none, some (.int l13), some (.int l14), some (.int l15), some (.int l16), some (.int l17), some (.int l18), some (.int l19), some (.int l20), some (.int l21), some (.int l22), some (.int l23), some (.int l24), some (.int l25), some (.int l26), some (.int l27), none] [] h
    else
      if zob r h l1 5 = true then
      (zcI (zev r i_X5_change 0 [some (.ref l1), some (.int l21), some (.int l22)] [] h) fun v1 h1 =>
      if v1 = (1 : Int32) then
        if zob r h1 l1 5 = true then
        (zcI (zev r i_X5_all 0 [some (.ref l1), some (.int l13)] [] h1) fun v2 h2 =>
        if v2 = ((l14 + (100 : Int32)) - l23) then
          zev r i_L_law 1068 [some (.ref l0), some (.ref l1), some (.ref l2), some (.ref l3), some (.int l4), some (.long l5), none, some (.int l7), some (.int l8), some (.int l9), some (.int l10), some (.long l11), none, some (.int l13), some (.int l14), some (.int l15), some (.int l16), some (.int l17), some (.int l18), some (.int l19), some (.int l20), some (.int l21), some (.int l22), some (.int l23), some (.int l24), some (.int l25), some (.int l26), some (.int l27), none] [] h2
        else
          some (some (.int (0 : Int32)), h2))
        else none
      else
        some (some (.int (0 : Int32)), h1))
      else none) := zblk r [54, 90, 118, 202, 220, 295, 341, 371, 435, 471, 512, 588, 677, 760, 816, 864, 877, 941, 1001, 1032, 1068, 1126, 1150, 1381, 1521, 1558, 1584, 1628, 1685, 1830, 2021] 1087 _ _ _ _ _
set_option maxHeartbeats 4000000 in
set_option maxRecDepth 100000 in
theorem E_L_law_1068 (r : zE) (h : zH) (l0 : Nat) (l1 : Nat) (l2 : Nat) (l3 : Nat) (l4 : Int32) (l5 : Int64) (l7 : Int32) (l8 : Int32) (l9 : Int32) (l10 : Int32) (l11 : Int64) (l13 : Int32) (l14 : Int32) (l15 : Int32) (l16 : Int32) (l17 : Int32) (l18 : Int32) (l19 : Int32) (l20 : Int32) (l21 : Int32) (l22 : Int32) (l23 : Int32) (l24 : Int32) (l25 : Int32) (l26 : Int32) (l27 : Int32) : zev r i_L_law 1068 [some (.ref l0), some (.ref l1), some (.ref l2), some (.ref l3), some (.int l4), some (.long l5), none, some (.int l7), some (.int l8), some (.int l9), some (.int l10), some (.long l11), none, some (.int l13), some (.int l14), some (.int l15), some (.int l16), some (.int l17), some (.int l18), some (.int l19), some (.int l20), some (.int l21), some (.int l22), some (.int l23), some (.int l24), some (.int l25), some (.int l26), some (.int l27), none] [] h =
    (if l26 = 0 then
      if l26 = 0 then
        zev r i_L_law 1126 [some (.ref l0), some (.ref l1), some (.ref l2), some (.ref l3), some (.int l4), some (.long l5), none, some (.int l7), some (.int l8), some (.int l9), some (.int l10), some (.long l11), none, some (.int l13), some (.int l14), some (.int l15), some (.int l16), some (.int l17), some (.int l18), some (.int l19), some (.int l20), some (.int l21), some (.int l22), some (.int l23), some (.int l24), some (.int l25), some (.int l26), some (.int l27), some (.int (0 : Int32))] [] h
      else
        if zob r h l1 5 = true then
        (zcI (zev r i_X5_undo 0 [some (.ref l1), some (.int l10), none] [] h) fun v1 h1 =>
        if v1 = (1 : Int32) then
          zev r i_L_law 1126 [some (.ref l0), some (.ref l1), some (.ref l2), some (.ref l3), some (.int l4), some (.long l5), none, some (.int l7), some (.int l8), some (.int l9), some (.int l10), some (.long l11), none, some (.int l13), some (.int l14), some (.int l15), some (.int l16), some (.int l17), some (.int l18), some (.int l19), some (.int l20), some (.int l21), some (.int l22), some (.int l23), some (.int l24), some (.int l25), some (.int l26), some (.int l27), some (.int (0 : Int32))] [] h1
        else
          some (some (.int (0 : Int32)), h1))
        else none
    else
      if l27 = 0 then
        if l26 = 0 then
          zev r i_L_law 1126 [some (.ref l0), some (.ref l1), some (.ref l2), some (.ref l3), some (.int l4), some (.long l5), none, some (.int l7), some (.int l8), some (.int l9), some (.int l10), some (.long l11), none, some (.int l13), some (.int l14), some (.int l15), some (.int l16), some (.int l17), some (.int l18), some (.int l19), some (.int l20), some (.int l21), some (.int l22), some (.int l23), some (.int l24), some (.int l25), some (.int l26), some (.int l27), some (.int (0 : Int32))] [] h
        else
          if zob r h l1 5 = true then
          (zcI (zev r i_X5_undo 0 [some (.ref l1), some (.int l10), none] [] h) fun v2 h2 =>
          if v2 = (1 : Int32) then
            zev r i_L_law 1126 [some (.ref l0), some (.ref l1), some (.ref l2), some (.ref l3), some (.int l4), some (.long l5), none, some (.int l7), some (.int l8), some (.int l9), some (.int l10), some (.long l11), none, some (.int l13), some (.int l14), some (.int l15), some (.int l16), some (.int l17), some (.int l18), some (.int l19), some (.int l20), some (.int l21), some (.int l22), some (.int l23), some (.int l24), some (.int l25), some (.int l26), some (.int l27), some (.int (0 : Int32))] [] h2
          else
            some (some (.int (0 : Int32)), h2))
          else none
      else
        if zob r h l1 5 = true then
        (zcI (zev r i_X5_woken 0 [some (.ref l1), some (.int l21), some (.int l13)] [] h) fun v3 h3 =>
        if v3 < l24 then
          if zob r h3 l1 5 = true then
          (zcI (zev r i_X5_woken 0 [some (.ref l1), some (.int l22), some (.int l13)] [] h3) fun v4 h4 =>
          if v4 < l25 then
            if l26 = 0 then
              zev r i_L_law 1126 [some (.ref l0), some (.ref l1), some (.ref l2), some (.ref l3), some (.int l4), some (.long l5), none, some (.int l7), some (.int l8), some (.int l9), some (.int l10), some (.long l11), none, some (.int l13), some (.int l14), some (.int l15), some (.int l16), some (.int l17), some (.int l18), some (.int l19), some (.int l20), some (.int l21), some (.int l22), some (.int l23), some (.int l24), some (.int l25), some (.int l26), some (.int l27), some (.int (1 : Int32))] [] h4
            else
              if zob r h4 l1 5 = true then
              (zcI (zev r i_X5_undo 0 [some (.ref l1), some (.int l10), none] [] h4) fun v5 h5 =>
              if v5 = (1 : Int32) then
                zev r i_L_law 1126 [some (.ref l0), some (.ref l1), some (.ref l2), some (.ref l3), some (.int l4), some (.long l5), none, some (.int l7), some (.int l8), some (.int l9), some (.int l10), some (.long l11), none, some (.int l13), some (.int l14), some (.int l15), some (.int l16), some (.int l17), some (.int l18), some (.int l19), some (.int l20), some (.int l21), some (.int l22), some (.int l23), some (.int l24), some (.int l25), some (.int l26), some (.int l27), some (.int (1 : Int32))] [] h5
              else
                some (some (.int (0 : Int32)), h5))
              else none
          else
            if l26 = 0 then
              zev r i_L_law 1126 [some (.ref l0), some (.ref l1), some (.ref l2), some (.ref l3), some (.int l4), some (.long l5), none, some (.int l7), some (.int l8), some (.int l9), some (.int l10), some (.long l11), none, some (.int l13), some (.int l14), some (.int l15), some (.int l16), some (.int l17), some (.int l18), some (.int l19), some (.int l20), some (.int l21), some (.int l22), some (.int l23), some (.int l24), some (.int l25), some (.int l26), some (.int l27), some (.int (0 : Int32))] [] h4
            else
              if zob r h4 l1 5 = true then
              (zcI (zev r i_X5_undo 0 [some (.ref l1), some (.int l10), none] [] h4) fun v6 h6 =>
              if v6 = (1 : Int32) then
                zev r i_L_law 1126 [some (.ref l0), some (.ref l1), some (.ref l2), some (.ref l3), some (.int l4), some (.long l5), none, some (.int l7), some (.int l8), some (.int l9), some (.int l10), some (.long l11), none, some (.int l13), some (.int l14), some (.int l15), some (.int l16), some (.int l17), some (.int l18), some (.int l19), some (.int l20), some (.int l21), some (.int l22), some (.int l23), some (.int l24), some (.int l25), some (.int l26), some (.int l27), some (.int (0 : Int32))] [] h6
              else
                some (some (.int (0 : Int32)), h6))
              else none)
          else none
        else
          if l26 = 0 then
            zev r i_L_law 1126 [some (.ref l0), some (.ref l1), some (.ref l2), some (.ref l3), some (.int l4), some (.long l5), none, some (.int l7), some (.int l8), some (.int l9), some (.int l10), some (.long l11), none, some (.int l13), some (.int l14), some (.int l15), some (.int l16), some (.int l17), some (.int l18), some (.int l19), some (.int l20), some (.int l21), some (.int l22), some (.int l23), some (.int l24), some (.int l25), some (.int l26), some (.int l27), some (.int (0 : Int32))] [] h3
          else
            if zob r h3 l1 5 = true then
            (zcI (zev r i_X5_undo 0 [some (.ref l1), some (.int l10), none] [] h3) fun v7 h7 =>
            if v7 = (1 : Int32) then
              zev r i_L_law 1126 [some (.ref l0), some (.ref l1), some (.ref l2), some (.ref l3), some (.int l4), some (.long l5), none, some (.int l7), some (.int l8), some (.int l9), some (.int l10), some (.long l11), none, some (.int l13), some (.int l14), some (.int l15), some (.int l16), some (.int l17), some (.int l18), some (.int l19), some (.int l20), some (.int l21), some (.int l22), some (.int l23), some (.int l24), some (.int l25), some (.int l26), some (.int l27), some (.int (0 : Int32))] [] h7
            else
              some (some (.int (0 : Int32)), h7))
            else none)
        else none) := zblk r [54, 90, 118, 202, 220, 295, 341, 371, 435, 471, 512, 588, 677, 760, 816, 864, 877, 941, 1001, 1032, 1068, 1126, 1150, 1381, 1521, 1558, 1584, 1628, 1685, 1830, 2021] 1087 _ _ _ _ _
set_option maxHeartbeats 4000000 in
set_option maxRecDepth 100000 in
theorem E_L_law_1126 (r : zE) (h : zH) (l0 : Nat) (l1 : Nat) (l2 : Nat) (l3 : Nat) (l4 : Int32) (l5 : Int64) (l7 : Int32) (l8 : Int32) (l9 : Int32) (l10 : Int32) (l11 : Int64) (l13 : Int32) (l14 : Int32) (l15 : Int32) (l16 : Int32) (l17 : Int32) (l18 : Int32) (l19 : Int32) (l20 : Int32) (l21 : Int32) (l22 : Int32) (l23 : Int32) (l24 : Int32) (l25 : Int32) (l26 : Int32) (l27 : Int32) (l28 : Int32) : zev r i_L_law 1126 [some (.ref l0), some (.ref l1), some (.ref l2), some (.ref l3), some (.int l4), some (.long l5), none, some (.int l7), some (.int l8), some (.int l9), some (.int l10), some (.long l11), none, some (.int l13), some (.int l14), some (.int l15), some (.int l16), some (.int l17), some (.int l18), some (.int l19), some (.int l20), some (.int l21), some (.int l22), some (.int l23), some (.int l24), some (.int l25), some (.int l26), some (.int l27), some (.int l28)] [] h =
    (if l28 = 0 then
      zev r i_L_law 1150 [some (.ref l0), some (.ref l1), some (.ref l2), some (.ref l3), some (.int l4), some (.long l5), none, some (.int l7), some (.int l8), some (.int l9), some (.int l10), some (.long l11), none, some (.int l13), some (.int l14), some (.int l15), some (.int l16), some (.int l17), some (.int l18), some (.int l19), some (.int l20), some (.int l21), some (.int l22), some (.int l23), some (.int l24), some (.int l25), some (.int l26), some (.int l27), some (.int l28)] [] h
    else
      if l19 = (1 : Int32) then
        some (some (.int (0 : Int32)), h)
      else
        if (((6 : Int32) * l21) + l22) < l20 then
          some (some (.int (0 : Int32)), h)
        else
          zev r i_L_law 1150 [some (.ref l0), some (.ref l1), some (.ref l2), some (.ref l3), some (.int l4), some (.long l5), none, some (.int l7), some (.int l8), some (.int l9), some (.int l10), some (.long l11), none, some (.int l13), some (.int l14), some (.int l15), some (.int l16), some (.int l17), some (.int l18), some (.int l19), some (.int l20), some (.int l21), some (.int l22), some (.int l23), some (.int l24), some (.int l25), some (.int l26), some (.int l27), some (.int l28)] [] h) := zblk r [54, 90, 118, 202, 220, 295, 341, 371, 435, 471, 512, 588, 677, 760, 816, 864, 877, 941, 1001, 1032, 1068, 1126, 1150, 1381, 1521, 1558, 1584, 1628, 1685, 1830, 2021] 1087 _ _ _ _ _
set_option maxHeartbeats 4000000 in
set_option maxRecDepth 100000 in
theorem E_L_law_1150 (r : zE) (h : zH) (l0 : Nat) (l1 : Nat) (l2 : Nat) (l3 : Nat) (l4 : Int32) (l5 : Int64) (l7 : Int32) (l8 : Int32) (l9 : Int32) (l10 : Int32) (l11 : Int64) (l13 : Int32) (l14 : Int32) (l15 : Int32) (l16 : Int32) (l17 : Int32) (l18 : Int32) (l19 : Int32) (l20 : Int32) (l21 : Int32) (l22 : Int32) (l23 : Int32) (l24 : Int32) (l25 : Int32) (l26 : Int32) (l27 : Int32) (l28 : Int32) : zev r i_L_law 1150 [some (.ref l0), some (.ref l1), some (.ref l2), some (.ref l3), some (.int l4), some (.long l5), none, some (.int l7), some (.int l8), some (.int l9), some (.int l10), some (.long l11), none, some (.int l13), some (.int l14), some (.int l15), some (.int l16), some (.int l17), some (.int l18), some (.int l19), some (.int l20), some (.int l21), some (.int l22), some (.int l23), some (.int l24), some (.int l25), some (.int l26), some (.int l27), some (.int l28)] [] h =
    (if l20 = (((6 : Int32) * l21) + l22) then
      if l28 = 0 then
        some (some (.int (0 : Int32)), h)
      else
        zev r i_L_law 877 [some (.ref l0), some (.ref l1), some (.ref l2), some (.ref l3), some (.int l4), some (.long l5), none, some (.int l7), some (.int l8), some (.int l9), some (.int l10), some (.long l11), none, some (.int l13), some (.int l14), some (.int l15), some (.int l16), some (.int l17), some (.int l18), some (.int l19), some (.int l20), some (.int l21), some (.int (l22 + (1 : Int32))), none, none, none, none, none, none] [] h
    else
      zev r i_L_law 877 [some (.ref l0), some (.ref l1), some (.ref l2), some (.ref l3), some (.int l4), some (.long l5), none, some (.int l7), some (.int l8), some (.int l9), some (.int l10), some (.long l11), none, some (.int l13), some (.int l14), some (.int l15), some (.int l16), some (.int l17), some (.int l18), some (.int l19), some (.int l20), some (.int l21), some (.int (l22 + (1 : Int32))), none, none, none, none, none, none] [] h) := zblk r [54, 90, 118, 202, 220, 295, 341, 371, 435, 471, 512, 588, 677, 760, 816, 864, 877, 941, 1001, 1032, 1068, 1126, 1150, 1381, 1521, 1558, 1584, 1628, 1685, 1830, 2021] 1087 _ _ _ _ _
