/-! stretches of code as equations (printed by wip/whole/gen20.py) -/
set_option maxRecDepth 100000 in
theorem E_L_law_0 (r : zE) (h : zH) (a1 : Nat) : zev r i_L_law 0 [some (.ref a1), none, none, none] [] h =
    (zcV (zev r i_X5_init 0 [some (.ref (r.1 + h.length)), none] [] (h ++ [.inr (.inr (5, [.null, .null, .null, .null, .null, .null, .null, .int 0, .long 0, .long 0, .int 0, .null]))] : zH)) fun h1 =>
    zcV (zev r i_X6_init 0 [some (.ref (r.1 + h1.length)), none] [] (h1 ++ [.inr (.inr (6, [.null, .int 0, .null, .int 0, .null, .null, .null, .null, .null, .null, .null, .int 0, .long 0, .long 0, .int 0, .null, .int 0, .int 0, .int 0, .null, .int 0, .null, .int 0, .null, .null, .null]))] : zH)) fun h2 =>
    zev r i_L_law 18 [some (.ref a1), some (.ref (r.1 + h.length)), some (.ref (r.1 + h1.length)), some (.int (0 : Int32))] [] h2) := zblk r [18, 228, 261, 304, 337, 360, 423, 446, 479, 522, 545, 568, 601, 634, 667, 700, 723, 756, 789, 812, 835, 858, 881, 914, 947, 970, 993, 1026, 1059, 1092, 1115, 1148, 1191, 1214, 1227, 1260, 1293, 1316, 1339, 1372, 1385, 1399, 1413, 1436, 1449, 1472, 1486] 1017 _ _ _ _ _
set_option maxRecDepth 100000 in
theorem E_L_law_18 (r : zE) (h : zH) (l0 : Nat) (l1 : Nat) (l2 : Nat) (l3 : Int32) : zev r i_L_law 18 [some (.ref l0), some (.ref l1), some (.ref l2), some (.int l3)] [] h =
    ((zaN r h l0).bind fun n1 =>
    if ((Int32.ofNat n1) - (6 : Int32)) < l3 then
      some (some (.int (1 : Int32)), h)
    else
      (zaI r h l0 l3).bind fun v2 =>
      if v2 &&& (63 : Int32) = (0 : Int32) then
        zev r i_L_law 228 [some (.ref l0), some (.ref l1), some (.ref l2), some (.int l3)] [] h
      else if v2 &&& (63 : Int32) = (1 : Int32) then
        zev r i_L_law 261 [some (.ref l0), some (.ref l1), some (.ref l2), some (.int l3)] [] h
      else if v2 &&& (63 : Int32) = (2 : Int32) then
        zev r i_L_law 304 [some (.ref l0), some (.ref l1), some (.ref l2), some (.int l3)] [] h
      else if v2 &&& (63 : Int32) = (3 : Int32) then
        zev r i_L_law 337 [some (.ref l0), some (.ref l1), some (.ref l2), some (.int l3)] [] h
      else if v2 &&& (63 : Int32) = (4 : Int32) then
        zev r i_L_law 360 [some (.ref l0), some (.ref l1), some (.ref l2), some (.int l3)] [] h
      else if v2 &&& (63 : Int32) = (5 : Int32) then
        zev r i_L_law 423 [some (.ref l0), some (.ref l1), some (.ref l2), some (.int l3)] [] h
      else if v2 &&& (63 : Int32) = (6 : Int32) then
        zev r i_L_law 446 [some (.ref l0), some (.ref l1), some (.ref l2), some (.int l3)] [] h
      else if v2 &&& (63 : Int32) = (7 : Int32) then
        zev r i_L_law 479 [some (.ref l0), some (.ref l1), some (.ref l2), some (.int l3)] [] h
      else if v2 &&& (63 : Int32) = (8 : Int32) then
        zev r i_L_law 522 [some (.ref l0), some (.ref l1), some (.ref l2), some (.int l3)] [] h
      else if v2 &&& (63 : Int32) = (9 : Int32) then
        zev r i_L_law 545 [some (.ref l0), some (.ref l1), some (.ref l2), some (.int l3)] [] h
      else if v2 &&& (63 : Int32) = (10 : Int32) then
        zev r i_L_law 568 [some (.ref l0), some (.ref l1), some (.ref l2), some (.int l3)] [] h
      else if v2 &&& (63 : Int32) = (11 : Int32) then
        zev r i_L_law 601 [some (.ref l0), some (.ref l1), some (.ref l2), some (.int l3)] [] h
      else if v2 &&& (63 : Int32) = (12 : Int32) then
        zev r i_L_law 634 [some (.ref l0), some (.ref l1), some (.ref l2), some (.int l3)] [] h
      else if v2 &&& (63 : Int32) = (13 : Int32) then
        zev r i_L_law 667 [some (.ref l0), some (.ref l1), some (.ref l2), some (.int l3)] [] h
      else if v2 &&& (63 : Int32) = (14 : Int32) then
        zev r i_L_law 700 [some (.ref l0), some (.ref l1), some (.ref l2), some (.int l3)] [] h
      else if v2 &&& (63 : Int32) = (15 : Int32) then
        zev r i_L_law 723 [some (.ref l0), some (.ref l1), some (.ref l2), some (.int l3)] [] h
      else if v2 &&& (63 : Int32) = (16 : Int32) then
        zev r i_L_law 756 [some (.ref l0), some (.ref l1), some (.ref l2), some (.int l3)] [] h
      else if v2 &&& (63 : Int32) = (17 : Int32) then
        zev r i_L_law 789 [some (.ref l0), some (.ref l1), some (.ref l2), some (.int l3)] [] h
      else if v2 &&& (63 : Int32) = (18 : Int32) then
        zev r i_L_law 812 [some (.ref l0), some (.ref l1), some (.ref l2), some (.int l3)] [] h
      else if v2 &&& (63 : Int32) = (19 : Int32) then
        zev r i_L_law 835 [some (.ref l0), some (.ref l1), some (.ref l2), some (.int l3)] [] h
      else if v2 &&& (63 : Int32) = (20 : Int32) then
        zev r i_L_law 858 [some (.ref l0), some (.ref l1), some (.ref l2), some (.int l3)] [] h
      else if v2 &&& (63 : Int32) = (21 : Int32) then
        zev r i_L_law 881 [some (.ref l0), some (.ref l1), some (.ref l2), some (.int l3)] [] h
      else if v2 &&& (63 : Int32) = (22 : Int32) then
        zev r i_L_law 914 [some (.ref l0), some (.ref l1), some (.ref l2), some (.int l3)] [] h
      else if v2 &&& (63 : Int32) = (23 : Int32) then
        zev r i_L_law 947 [some (.ref l0), some (.ref l1), some (.ref l2), some (.int l3)] [] h
      else if v2 &&& (63 : Int32) = (24 : Int32) then
        zev r i_L_law 970 [some (.ref l0), some (.ref l1), some (.ref l2), some (.int l3)] [] h
      else if v2 &&& (63 : Int32) = (25 : Int32) then
        zev r i_L_law 993 [some (.ref l0), some (.ref l1), some (.ref l2), some (.int l3)] [] h
      else if v2 &&& (63 : Int32) = (26 : Int32) then
        zev r i_L_law 1026 [some (.ref l0), some (.ref l1), some (.ref l2), some (.int l3)] [] h
      else if v2 &&& (63 : Int32) = (27 : Int32) then
        zev r i_L_law 1059 [some (.ref l0), some (.ref l1), some (.ref l2), some (.int l3)] [] h
      else if v2 &&& (63 : Int32) = (28 : Int32) then
        zev r i_L_law 1092 [some (.ref l0), some (.ref l1), some (.ref l2), some (.int l3)] [] h
      else if v2 &&& (63 : Int32) = (29 : Int32) then
        zev r i_L_law 1115 [some (.ref l0), some (.ref l1), some (.ref l2), some (.int l3)] [] h
      else if v2 &&& (63 : Int32) = (30 : Int32) then
        zev r i_L_law 1148 [some (.ref l0), some (.ref l1), some (.ref l2), some (.int l3)] [] h
      else if v2 &&& (63 : Int32) = (31 : Int32) then
        zev r i_L_law 1191 [some (.ref l0), some (.ref l1), some (.ref l2), some (.int l3)] [] h
      else if v2 &&& (63 : Int32) = (32 : Int32) then
        zev r i_L_law 1214 [some (.ref l0), some (.ref l1), some (.ref l2), some (.int l3)] [] h
      else if v2 &&& (63 : Int32) = (33 : Int32) then
        zev r i_L_law 1227 [some (.ref l0), some (.ref l1), some (.ref l2), some (.int l3)] [] h
      else if v2 &&& (63 : Int32) = (34 : Int32) then
        zev r i_L_law 1260 [some (.ref l0), some (.ref l1), some (.ref l2), some (.int l3)] [] h
      else if v2 &&& (63 : Int32) = (35 : Int32) then
        zev r i_L_law 1293 [some (.ref l0), some (.ref l1), some (.ref l2), some (.int l3)] [] h
      else if v2 &&& (63 : Int32) = (36 : Int32) then
        zev r i_L_law 1316 [some (.ref l0), some (.ref l1), some (.ref l2), some (.int l3)] [] h
      else if v2 &&& (63 : Int32) = (37 : Int32) then
        zev r i_L_law 1339 [some (.ref l0), some (.ref l1), some (.ref l2), some (.int l3)] [] h
      else if v2 &&& (63 : Int32) = (38 : Int32) then
        zev r i_L_law 1372 [some (.ref l0), some (.ref l1), some (.ref l2), some (.int l3)] [] h
      else if v2 &&& (63 : Int32) = (39 : Int32) then
        zev r i_L_law 1385 [some (.ref l0), some (.ref l1), some (.ref l2), some (.int l3)] [] h
      else if v2 &&& (63 : Int32) = (40 : Int32) then
        zev r i_L_law 1399 [some (.ref l0), some (.ref l1), some (.ref l2), some (.int l3)] [] h
      else if v2 &&& (63 : Int32) = (41 : Int32) then
        zev r i_L_law 1413 [some (.ref l0), some (.ref l1), some (.ref l2), some (.int l3)] [] h
      else if v2 &&& (63 : Int32) = (42 : Int32) then
        zev r i_L_law 1436 [some (.ref l0), some (.ref l1), some (.ref l2), some (.int l3)] [] h
      else if v2 &&& (63 : Int32) = (43 : Int32) then
        zev r i_L_law 1449 [some (.ref l0), some (.ref l1), some (.ref l2), some (.int l3)] [] h
      else if v2 &&& (63 : Int32) = (44 : Int32) then
        zev r i_L_law 1472 [some (.ref l0), some (.ref l1), some (.ref l2), some (.int l3)] [] h
      else zev r i_L_law 1486 [some (.ref l0), some (.ref l1), some (.ref l2), some (.int l3)] [] h) := zblk r [18, 228, 261, 304, 337, 360, 423, 446, 479, 522, 545, 568, 601, 634, 667, 700, 723, 756, 789, 812, 835, 858, 881, 914, 947, 970, 993, 1026, 1059, 1092, 1115, 1148, 1191, 1214, 1227, 1260, 1293, 1316, 1339, 1372, 1385, 1399, 1413, 1436, 1449, 1472, 1486] 1017 _ _ _ _ _
set_option maxRecDepth 100000 in
theorem E_L_law_228 (r : zE) (h : zH) (l0 : Nat) (l1 : Nat) (l2 : Nat) (l3 : Int32) : zev r i_L_law 228 [some (.ref l0), some (.ref l1), some (.ref l2), some (.int l3)] [] h =
    ((zaI r h l0 (l3 + (1 : Int32))).bind fun v1 =>
    (zaI r h l0 (l3 + (2 : Int32))).bind fun v2 =>
    if zob r h l1 5 = true then
    (zcI (zev r i_X5_row 0 [some (.ref l1), some (.int v1), some (.int v2)] [] h) fun v3 h1 =>
    (zaI r h1 l0 (l3 + (1 : Int32))).bind fun v4 =>
    (zaI r h1 l0 (l3 + (2 : Int32))).bind fun v5 =>
    if zob r h1 l2 6 = true then
    (zcI (zev r i_X6_row 0 [some (.ref l2), some (.int v4), some (.int v5)] [] h1) fun v6 h2 =>
    if v3 = v6 then
      zev r i_L_law 1486 [some (.ref l0), some (.ref l1), some (.ref l2), some (.int l3)] [] h2
    else
      some (some (.int (0 : Int32)), h2))
    else none)
    else none) := zblk r [18, 228, 261, 304, 337, 360, 423, 446, 479, 522, 545, 568, 601, 634, 667, 700, 723, 756, 789, 812, 835, 858, 881, 914, 947, 970, 993, 1026, 1059, 1092, 1115, 1148, 1191, 1214, 1227, 1260, 1293, 1316, 1339, 1372, 1385, 1399, 1413, 1436, 1449, 1472, 1486] 1017 _ _ _ _ _
set_option maxRecDepth 100000 in
theorem E_L_law_261 (r : zE) (h : zH) (l0 : Nat) (l1 : Nat) (l2 : Nat) (l3 : Int32) : zev r i_L_law 261 [some (.ref l0), some (.ref l1), some (.ref l2), some (.int l3)] [] h =
    ((zaI r h l0 (l3 + (1 : Int32))).bind fun v1 =>
    (zaI r h l0 (l3 + (2 : Int32))).bind fun v2 =>
    (zaI r h l0 (l3 + (3 : Int32))).bind fun v3 =>
    if zob r h l1 5 = true then
    (zcI (zev r i_X5_lay 0 [some (.ref l1), some (.int v1), some (.int v2), some (.int v3), none] [] h) fun v4 h1 =>
    (zaI r h1 l0 (l3 + (1 : Int32))).bind fun v5 =>
    (zaI r h1 l0 (l3 + (2 : Int32))).bind fun v6 =>
    (zaI r h1 l0 (l3 + (3 : Int32))).bind fun v7 =>
    if zob r h1 l2 6 = true then
    (zcI (zev r i_X6_lay 0 [some (.ref l2), some (.int v5), some (.int v6), some (.int v7), none, none] [] h1) fun v8 h2 =>
    if v4 = v8 then
      zev r i_L_law 1486 [some (.ref l0), some (.ref l1), some (.ref l2), some (.int l3)] [] h2
    else
      some (some (.int (0 : Int32)), h2))
    else none)
    else none) := zblk r [18, 228, 261, 304, 337, 360, 423, 446, 479, 522, 545, 568, 601, 634, 667, 700, 723, 756, 789, 812, 835, 858, 881, 914, 947, 970, 993, 1026, 1059, 1092, 1115, 1148, 1191, 1214, 1227, 1260, 1293, 1316, 1339, 1372, 1385, 1399, 1413, 1436, 1449, 1472, 1486] 1017 _ _ _ _ _
set_option maxRecDepth 100000 in
theorem E_L_law_304 (r : zE) (h : zH) (l0 : Nat) (l1 : Nat) (l2 : Nat) (l3 : Int32) : zev r i_L_law 304 [some (.ref l0), some (.ref l1), some (.ref l2), some (.int l3)] [] h =
    ((zaI r h l0 (l3 + (1 : Int32))).bind fun v1 =>
    (zaI r h l0 (l3 + (2 : Int32))).bind fun v2 =>
    if zob r h l1 5 = true then
    (zcI (zev r i_X5_at 0 [some (.ref l1), some (.int v1), some (.int v2), none] [] h) fun v3 h1 =>
    (zaI r h1 l0 (l3 + (1 : Int32))).bind fun v4 =>
    (zaI r h1 l0 (l3 + (2 : Int32))).bind fun v5 =>
    if zob r h1 l2 6 = true then
    (zcI (zev r i_X6_at 0 [some (.ref l2), some (.int v4), some (.int v5), none] [] h1) fun v6 h2 =>
    if v3 = v6 then
      zev r i_L_law 1486 [some (.ref l0), some (.ref l1), some (.ref l2), some (.int l3)] [] h2
    else
      some (some (.int (0 : Int32)), h2))
    else none)
    else none) := zblk r [18, 228, 261, 304, 337, 360, 423, 446, 479, 522, 545, 568, 601, 634, 667, 700, 723, 756, 789, 812, 835, 858, 881, 914, 947, 970, 993, 1026, 1059, 1092, 1115, 1148, 1191, 1214, 1227, 1260, 1293, 1316, 1339, 1372, 1385, 1399, 1413, 1436, 1449, 1472, 1486] 1017 _ _ _ _ _
set_option maxRecDepth 100000 in
theorem E_L_law_337 (r : zE) (h : zH) (l0 : Nat) (l1 : Nat) (l2 : Nat) (l3 : Int32) : zev r i_L_law 337 [some (.ref l0), some (.ref l1), some (.ref l2), some (.int l3)] [] h =
    ((zaI r h l0 (l3 + (1 : Int32))).bind fun v1 =>
    if zob r h l1 5 = true then
    (zcI (zev r i_X5_tear 0 [some (.ref l1), some (.int v1), none] [] h) fun v2 h1 =>
    (zaI r h1 l0 (l3 + (1 : Int32))).bind fun v3 =>
    if zob r h1 l2 6 = true then
    (zcI (zev r i_X6_tear 0 [some (.ref l2), some (.int v3)] [] h1) fun v4 h2 =>
    if v2 = v4 then
      zev r i_L_law 1486 [some (.ref l0), some (.ref l1), some (.ref l2), some (.int l3)] [] h2
    else
      some (some (.int (0 : Int32)), h2))
    else none)
    else none) := zblk r [18, 228, 261, 304, 337, 360, 423, 446, 479, 522, 545, 568, 601, 634, 667, 700, 723, 756, 789, 812, 835, 858, 881, 914, 947, 970, 993, 1026, 1059, 1092, 1115, 1148, 1191, 1214, 1227, 1260, 1293, 1316, 1339, 1372, 1385, 1399, 1413, 1436, 1449, 1472, 1486] 1017 _ _ _ _ _
set_option maxRecDepth 100000 in
theorem E_L_law_360 (r : zE) (h : zH) (l0 : Nat) (l1 : Nat) (l2 : Nat) (l3 : Int32) : zev r i_L_law 360 [some (.ref l0), some (.ref l1), some (.ref l2), some (.int l3)] [] h =
    ((zaI r h l0 (l3 + (1 : Int32))).bind fun v1 =>
    (zaI r h l0 (l3 + (2 : Int32))).bind fun v2 =>
    (zaI r h l0 (l3 + (3 : Int32))).bind fun v3 =>
    (zaI r h l0 (l3 + (4 : Int32))).bind fun v4 =>
    (zaI r h l0 (l3 + (5 : Int32))).bind fun v5 =>
    if zob r h l1 5 = true then
    (zcI (zev r i_X5_copy 0 [some (.ref l1), some (.int v1), some (.int v2), some (.int v3), some (.int v4), some (.int v5), none, none] [] h) fun v6 h1 =>
    (zaI r h1 l0 (l3 + (1 : Int32))).bind fun v7 =>
    (zaI r h1 l0 (l3 + (2 : Int32))).bind fun v8 =>
    (zaI r h1 l0 (l3 + (3 : Int32))).bind fun v9 =>
    (zaI r h1 l0 (l3 + (4 : Int32))).bind fun v10 =>
    (zaI r h1 l0 (l3 + (5 : Int32))).bind fun v11 =>
    if zob r h1 l2 6 = true then
    (zcI (zev r i_X6_copy 0 [some (.ref l2), some (.int v7), some (.int v8), some (.int v9), some (.int v10), some (.int v11), none, none, none] [] h1) fun v12 h2 =>
    if v6 = v12 then
      zev r i_L_law 1486 [some (.ref l0), some (.ref l1), some (.ref l2), some (.int l3)] [] h2
    else
      some (some (.int (0 : Int32)), h2))
    else none)
    else none) := zblk r [18, 228, 261, 304, 337, 360, 423, 446, 479, 522, 545, 568, 601, 634, 667, 700, 723, 756, 789, 812, 835, 858, 881, 914, 947, 970, 993, 1026, 1059, 1092, 1115, 1148, 1191, 1214, 1227, 1260, 1293, 1316, 1339, 1372, 1385, 1399, 1413, 1436, 1449, 1472, 1486] 1017 _ _ _ _ _
set_option maxRecDepth 100000 in
theorem E_L_law_423 (r : zE) (h : zH) (l0 : Nat) (l1 : Nat) (l2 : Nat) (l3 : Int32) : zev r i_L_law 423 [some (.ref l0), some (.ref l1), some (.ref l2), some (.int l3)] [] h =
    ((zaI r h l0 (l3 + (1 : Int32))).bind fun v1 =>
    if zob r h l1 5 = true then
    (zcI (zev r i_X5_mean 0 [some (.ref l1), some (.int v1), none] [] h) fun v2 h1 =>
    (zaI r h1 l0 (l3 + (1 : Int32))).bind fun v3 =>
    if zob r h1 l2 6 = true then
    (zcI (zev r i_X6_mean 0 [some (.ref l2), some (.int v3), none, none, none] [] h1) fun v4 h2 =>
    if v2 = v4 then
      zev r i_L_law 1486 [some (.ref l0), some (.ref l1), some (.ref l2), some (.int l3)] [] h2
    else
      some (some (.int (0 : Int32)), h2))
    else none)
    else none) := zblk r [18, 228, 261, 304, 337, 360, 423, 446, 479, 522, 545, 568, 601, 634, 667, 700, 723, 756, 789, 812, 835, 858, 881, 914, 947, 970, 993, 1026, 1059, 1092, 1115, 1148, 1191, 1214, 1227, 1260, 1293, 1316, 1339, 1372, 1385, 1399, 1413, 1436, 1449, 1472, 1486] 1017 _ _ _ _ _
set_option maxRecDepth 100000 in
theorem E_L_law_446 (r : zE) (h : zH) (l0 : Nat) (l1 : Nat) (l2 : Nat) (l3 : Int32) : zev r i_L_law 446 [some (.ref l0), some (.ref l1), some (.ref l2), some (.int l3)] [] h =
    ((zaI r h l0 (l3 + (1 : Int32))).bind fun v1 =>
    (zaI r h l0 (l3 + (2 : Int32))).bind fun v2 =>
    if zob r h l1 5 = true then
    (zcI (zev r i_X5_text 0 [some (.ref l1), some (.int v1), some (.int v2)] [] h) fun v3 h1 =>
    (zaI r h1 l0 (l3 + (1 : Int32))).bind fun v4 =>
    (zaI r h1 l0 (l3 + (2 : Int32))).bind fun v5 =>
    if zob r h1 l2 6 = true then
    (zcI (zev r i_X6_text 0 [some (.ref l2), some (.int v4), some (.int v5), none] [] h1) fun v6 h2 =>
    if v3 = v6 then
      zev r i_L_law 1486 [some (.ref l0), some (.ref l1), some (.ref l2), some (.int l3)] [] h2
    else
      some (some (.int (0 : Int32)), h2))
    else none)
    else none) := zblk r [18, 228, 261, 304, 337, 360, 423, 446, 479, 522, 545, 568, 601, 634, 667, 700, 723, 756, 789, 812, 835, 858, 881, 914, 947, 970, 993, 1026, 1059, 1092, 1115, 1148, 1191, 1214, 1227, 1260, 1293, 1316, 1339, 1372, 1385, 1399, 1413, 1436, 1449, 1472, 1486] 1017 _ _ _ _ _
set_option maxRecDepth 100000 in
theorem E_L_law_479 (r : zE) (h : zH) (l0 : Nat) (l1 : Nat) (l2 : Nat) (l3 : Int32) : zev r i_L_law 479 [some (.ref l0), some (.ref l1), some (.ref l2), some (.int l3)] [] h =
    ((zaI r h l0 (l3 + (1 : Int32))).bind fun v1 =>
    (zaI r h l0 (l3 + (2 : Int32))).bind fun v2 =>
    (zaI r h l0 (l3 + (3 : Int32))).bind fun v3 =>
    if zob r h l1 5 = true then
    (zcI (zev r i_X5_put 0 [some (.ref l1), some (.int v1), some (.int v2), some (.int v3), none, none] [] h) fun v4 h1 =>
    (zaI r h1 l0 (l3 + (1 : Int32))).bind fun v5 =>
    (zaI r h1 l0 (l3 + (2 : Int32))).bind fun v6 =>
    (zaI r h1 l0 (l3 + (3 : Int32))).bind fun v7 =>
    if zob r h1 l2 6 = true then
    (zcI (zev r i_X6_put 0 [some (.ref l2), some (.int v5), some (.int v6), some (.int v7), none] [] h1) fun v8 h2 =>
    if v4 = v8 then
      zev r i_L_law 1486 [some (.ref l0), some (.ref l1), some (.ref l2), some (.int l3)] [] h2
    else
      some (some (.int (0 : Int32)), h2))
    else none)
    else none) := zblk r [18, 228, 261, 304, 337, 360, 423, 446, 479, 522, 545, 568, 601, 634, 667, 700, 723, 756, 789, 812, 835, 858, 881, 914, 947, 970, 993, 1026, 1059, 1092, 1115, 1148, 1191, 1214, 1227, 1260, 1293, 1316, 1339, 1372, 1385, 1399, 1413, 1436, 1449, 1472, 1486] 1017 _ _ _ _ _
set_option maxRecDepth 100000 in
theorem E_L_law_522 (r : zE) (h : zH) (l0 : Nat) (l1 : Nat) (l2 : Nat) (l3 : Int32) : zev r i_L_law 522 [some (.ref l0), some (.ref l1), some (.ref l2), some (.int l3)] [] h =
    ((zaI r h l0 (l3 + (1 : Int32))).bind fun v1 =>
    if zob r h l1 5 = true then
    (zcI (zev r i_X5_fault 0 [some (.ref l1), some (.int v1), none] [] h) fun v2 h1 =>
    (zaI r h1 l0 (l3 + (1 : Int32))).bind fun v3 =>
    if zob r h1 l2 6 = true then
    (zcI (zev r i_X6_fault 0 [some (.ref l2), some (.int v3)] [] h1) fun v4 h2 =>
    if v2 = v4 then
      zev r i_L_law 1486 [some (.ref l0), some (.ref l1), some (.ref l2), some (.int l3)] [] h2
    else
      some (some (.int (0 : Int32)), h2))
    else none)
    else none) := zblk r [18, 228, 261, 304, 337, 360, 423, 446, 479, 522, 545, 568, 601, 634, 667, 700, 723, 756, 789, 812, 835, 858, 881, 914, 947, 970, 993, 1026, 1059, 1092, 1115, 1148, 1191, 1214, 1227, 1260, 1293, 1316, 1339, 1372, 1385, 1399, 1413, 1436, 1449, 1472, 1486] 1017 _ _ _ _ _
set_option maxRecDepth 100000 in
theorem E_L_law_545 (r : zE) (h : zH) (l0 : Nat) (l1 : Nat) (l2 : Nat) (l3 : Int32) : zev r i_L_law 545 [some (.ref l0), some (.ref l1), some (.ref l2), some (.int l3)] [] h =
    ((zaI r h l0 (l3 + (1 : Int32))).bind fun v1 =>
    if zob r h l1 5 = true then
    (zcI (zev r i_X5_deck 0 [some (.ref l1), some (.int v1), none, none, none] [] h) fun v2 h1 =>
    (zaI r h1 l0 (l3 + (1 : Int32))).bind fun v3 =>
    if zob r h1 l2 6 = true then
    (zcI (zev r i_X6_deck 0 [some (.ref l2), some (.int v3), none, none] [] h1) fun v4 h2 =>
    if v2 = v4 then
      zev r i_L_law 1486 [some (.ref l0), some (.ref l1), some (.ref l2), some (.int l3)] [] h2
    else
      some (some (.int (0 : Int32)), h2))
    else none)
    else none) := zblk r [18, 228, 261, 304, 337, 360, 423, 446, 479, 522, 545, 568, 601, 634, 667, 700, 723, 756, 789, 812, 835, 858, 881, 914, 947, 970, 993, 1026, 1059, 1092, 1115, 1148, 1191, 1214, 1227, 1260, 1293, 1316, 1339, 1372, 1385, 1399, 1413, 1436, 1449, 1472, 1486] 1017 _ _ _ _ _
set_option maxRecDepth 100000 in
theorem E_L_law_568 (r : zE) (h : zH) (l0 : Nat) (l1 : Nat) (l2 : Nat) (l3 : Int32) : zev r i_L_law 568 [some (.ref l0), some (.ref l1), some (.ref l2), some (.int l3)] [] h =
    ((zaI r h l0 (l3 + (1 : Int32))).bind fun v1 =>
    (zaI r h l0 (l3 + (2 : Int32))).bind fun v2 =>
    if zob r h l1 5 = true then
    (zcI (zev r i_X5_man 0 [some (.ref l1), some (.int v1), some (.int v2)] [] h) fun v3 h1 =>
    (zaI r h1 l0 (l3 + (1 : Int32))).bind fun v4 =>
    (zaI r h1 l0 (l3 + (2 : Int32))).bind fun v5 =>
    if zob r h1 l2 6 = true then
    (zcI (zev r i_X6_man 0 [some (.ref l2), some (.int v4), some (.int v5)] [] h1) fun v6 h2 =>
    if v3 = v6 then
      zev r i_L_law 1486 [some (.ref l0), some (.ref l1), some (.ref l2), some (.int l3)] [] h2
    else
      some (some (.int (0 : Int32)), h2))
    else none)
    else none) := zblk r [18, 228, 261, 304, 337, 360, 423, 446, 479, 522, 545, 568, 601, 634, 667, 700, 723, 756, 789, 812, 835, 858, 881, 914, 947, 970, 993, 1026, 1059, 1092, 1115, 1148, 1191, 1214, 1227, 1260, 1293, 1316, 1339, 1372, 1385, 1399, 1413, 1436, 1449, 1472, 1486] 1017 _ _ _ _ _
set_option maxRecDepth 100000 in
theorem E_L_law_601 (r : zE) (h : zH) (l0 : Nat) (l1 : Nat) (l2 : Nat) (l3 : Int32) : zev r i_L_law 601 [some (.ref l0), some (.ref l1), some (.ref l2), some (.int l3)] [] h =
    ((zaI r h l0 (l3 + (1 : Int32))).bind fun v1 =>
    (zaI r h l0 (l3 + (2 : Int32))).bind fun v2 =>
    if zob r h l1 5 = true then
    (zcI (zev r i_X5_hook 0 [some (.ref l1), some (.int v1), some (.int v2)] [] h) fun v3 h1 =>
    (zaI r h1 l0 (l3 + (1 : Int32))).bind fun v4 =>
    (zaI r h1 l0 (l3 + (2 : Int32))).bind fun v5 =>
    if zob r h1 l2 6 = true then
    (zcI (zev r i_X6_hook 0 [some (.ref l2), some (.int v4), some (.int v5)] [] h1) fun v6 h2 =>
    if v3 = v6 then
      zev r i_L_law 1486 [some (.ref l0), some (.ref l1), some (.ref l2), some (.int l3)] [] h2
    else
      some (some (.int (0 : Int32)), h2))
    else none)
    else none) := zblk r [18, 228, 261, 304, 337, 360, 423, 446, 479, 522, 545, 568, 601, 634, 667, 700, 723, 756, 789, 812, 835, 858, 881, 914, 947, 970, 993, 1026, 1059, 1092, 1115, 1148, 1191, 1214, 1227, 1260, 1293, 1316, 1339, 1372, 1385, 1399, 1413, 1436, 1449, 1472, 1486] 1017 _ _ _ _ _
set_option maxRecDepth 100000 in
theorem E_L_law_634 (r : zE) (h : zH) (l0 : Nat) (l1 : Nat) (l2 : Nat) (l3 : Int32) : zev r i_L_law 634 [some (.ref l0), some (.ref l1), some (.ref l2), some (.int l3)] [] h =
    ((zaI r h l0 (l3 + (1 : Int32))).bind fun v1 =>
    (zaI r h l0 (l3 + (2 : Int32))).bind fun v2 =>
    if zob r h l1 5 = true then
    (zcI (zev r i_X5_mark 0 [some (.ref l1), some (.int v1), some (.int v2), none] [] h) fun v3 h1 =>
    (zaI r h1 l0 (l3 + (1 : Int32))).bind fun v4 =>
    (zaI r h1 l0 (l3 + (2 : Int32))).bind fun v5 =>
    if zob r h1 l2 6 = true then
    (zcI (zev r i_X6_mark 0 [some (.ref l2), some (.int v4), some (.int v5)] [] h1) fun v6 h2 =>
    if v3 = v6 then
      zev r i_L_law 1486 [some (.ref l0), some (.ref l1), some (.ref l2), some (.int l3)] [] h2
    else
      some (some (.int (0 : Int32)), h2))
    else none)
    else none) := zblk r [18, 228, 261, 304, 337, 360, 423, 446, 479, 522, 545, 568, 601, 634, 667, 700, 723, 756, 789, 812, 835, 858, 881, 914, 947, 970, 993, 1026, 1059, 1092, 1115, 1148, 1191, 1214, 1227, 1260, 1293, 1316, 1339, 1372, 1385, 1399, 1413, 1436, 1449, 1472, 1486] 1017 _ _ _ _ _
set_option maxRecDepth 100000 in
theorem E_L_law_667 (r : zE) (h : zH) (l0 : Nat) (l1 : Nat) (l2 : Nat) (l3 : Int32) : zev r i_L_law 667 [some (.ref l0), some (.ref l1), some (.ref l2), some (.int l3)] [] h =
    ((zaI r h l0 (l3 + (1 : Int32))).bind fun v1 =>
    (zaI r h l0 (l3 + (2 : Int32))).bind fun v2 =>
    if zob r h l1 5 = true then
    (zcI (zev r i_X5_hang 0 [some (.ref l1), some (.int v1), some (.int v2)] [] h) fun v3 h1 =>
    (zaI r h1 l0 (l3 + (1 : Int32))).bind fun v4 =>
    (zaI r h1 l0 (l3 + (2 : Int32))).bind fun v5 =>
    if zob r h1 l2 6 = true then
    (zcI (zev r i_X6_hang 0 [some (.ref l2), some (.int v4), some (.int v5)] [] h1) fun v6 h2 =>
    if v3 = v6 then
      zev r i_L_law 1486 [some (.ref l0), some (.ref l1), some (.ref l2), some (.int l3)] [] h2
    else
      some (some (.int (0 : Int32)), h2))
    else none)
    else none) := zblk r [18, 228, 261, 304, 337, 360, 423, 446, 479, 522, 545, 568, 601, 634, 667, 700, 723, 756, 789, 812, 835, 858, 881, 914, 947, 970, 993, 1026, 1059, 1092, 1115, 1148, 1191, 1214, 1227, 1260, 1293, 1316, 1339, 1372, 1385, 1399, 1413, 1436, 1449, 1472, 1486] 1017 _ _ _ _ _
set_option maxRecDepth 100000 in
theorem E_L_law_700 (r : zE) (h : zH) (l0 : Nat) (l1 : Nat) (l2 : Nat) (l3 : Int32) : zev r i_L_law 700 [some (.ref l0), some (.ref l1), some (.ref l2), some (.int l3)] [] h =
    ((zaI r h l0 (l3 + (1 : Int32))).bind fun v1 =>
    if zob r h l1 5 = true then
    (zcI (zev r i_X5_down 0 [some (.ref l1), some (.int v1), none] [] h) fun v2 h1 =>
    (zaI r h1 l0 (l3 + (1 : Int32))).bind fun v3 =>
    if zob r h1 l2 6 = true then
    (zcI (zev r i_X6_down 0 [some (.ref l2), some (.int v3), none] [] h1) fun v4 h2 =>
    if v2 = v4 then
      zev r i_L_law 1486 [some (.ref l0), some (.ref l1), some (.ref l2), some (.int l3)] [] h2
    else
      some (some (.int (0 : Int32)), h2))
    else none)
    else none) := zblk r [18, 228, 261, 304, 337, 360, 423, 446, 479, 522, 545, 568, 601, 634, 667, 700, 723, 756, 789, 812, 835, 858, 881, 914, 947, 970, 993, 1026, 1059, 1092, 1115, 1148, 1191, 1214, 1227, 1260, 1293, 1316, 1339, 1372, 1385, 1399, 1413, 1436, 1449, 1472, 1486] 1017 _ _ _ _ _
set_option maxRecDepth 100000 in
theorem E_L_law_723 (r : zE) (h : zH) (l0 : Nat) (l1 : Nat) (l2 : Nat) (l3 : Int32) : zev r i_L_law 723 [some (.ref l0), some (.ref l1), some (.ref l2), some (.int l3)] [] h =
    ((zaI r h l0 (l3 + (1 : Int32))).bind fun v1 =>
    (zaI r h l0 (l3 + (2 : Int32))).bind fun v2 =>
    if zob r h l1 5 = true then
    (zcI (zev r i_X5_change 0 [some (.ref l1), some (.int v1), some (.int v2)] [] h) fun v3 h1 =>
    (zaI r h1 l0 (l3 + (1 : Int32))).bind fun v4 =>
    (zaI r h1 l0 (l3 + (2 : Int32))).bind fun v5 =>
    if zob r h1 l2 6 = true then
    (zcI (zev r i_X6_change 0 [some (.ref l2), some (.int v4), some (.int v5), none] [] h1) fun v6 h2 =>
    if v3 = v6 then
      zev r i_L_law 1486 [some (.ref l0), some (.ref l1), some (.ref l2), some (.int l3)] [] h2
    else
      some (some (.int (0 : Int32)), h2))
    else none)
    else none) := zblk r [18, 228, 261, 304, 337, 360, 423, 446, 479, 522, 545, 568, 601, 634, 667, 700, 723, 756, 789, 812, 835, 858, 881, 914, 947, 970, 993, 1026, 1059, 1092, 1115, 1148, 1191, 1214, 1227, 1260, 1293, 1316, 1339, 1372, 1385, 1399, 1413, 1436, 1449, 1472, 1486] 1017 _ _ _ _ _
set_option maxRecDepth 100000 in
theorem E_L_law_756 (r : zE) (h : zH) (l0 : Nat) (l1 : Nat) (l2 : Nat) (l3 : Int32) : zev r i_L_law 756 [some (.ref l0), some (.ref l1), some (.ref l2), some (.int l3)] [] h =
    ((zaI r h l0 (l3 + (1 : Int32))).bind fun v1 =>
    (zaI r h l0 (l3 + (2 : Int32))).bind fun v2 =>
    if zob r h l1 5 = true then
    (zcI (zev r i_X5_line 0 [some (.ref l1), some (.int v1), some (.int v2), none] [] h) fun v3 h1 =>
    (zaI r h1 l0 (l3 + (1 : Int32))).bind fun v4 =>
    (zaI r h1 l0 (l3 + (2 : Int32))).bind fun v5 =>
    if zob r h1 l2 6 = true then
    (zcI (zev r i_X6_line 0 [some (.ref l2), some (.int v4), some (.int v5), none] [] h1) fun v6 h2 =>
    if v3 = v6 then
      zev r i_L_law 1486 [some (.ref l0), some (.ref l1), some (.ref l2), some (.int l3)] [] h2
    else
      some (some (.int (0 : Int32)), h2))
    else none)
    else none) := zblk r [18, 228, 261, 304, 337, 360, 423, 446, 479, 522, 545, 568, 601, 634, 667, 700, 723, 756, 789, 812, 835, 858, 881, 914, 947, 970, 993, 1026, 1059, 1092, 1115, 1148, 1191, 1214, 1227, 1260, 1293, 1316, 1339, 1372, 1385, 1399, 1413, 1436, 1449, 1472, 1486] 1017 _ _ _ _ _
set_option maxRecDepth 100000 in
theorem E_L_law_789 (r : zE) (h : zH) (l0 : Nat) (l1 : Nat) (l2 : Nat) (l3 : Int32) : zev r i_L_law 789 [some (.ref l0), some (.ref l1), some (.ref l2), some (.int l3)] [] h =
    ((zaI r h l0 (l3 + (1 : Int32))).bind fun v1 =>
    if zob r h l1 5 = true then
    (zcI (zev r i_X5_night 0 [some (.ref l1), some (.int v1)] [] h) fun v2 h1 =>
    (zaI r h1 l0 (l3 + (1 : Int32))).bind fun v3 =>
    if zob r h1 l2 6 = true then
    (zcI (zev r i_X6_night 0 [some (.ref l2), some (.int v3)] [] h1) fun v4 h2 =>
    if v2 = v4 then
      zev r i_L_law 1486 [some (.ref l0), some (.ref l1), some (.ref l2), some (.int l3)] [] h2
    else
      some (some (.int (0 : Int32)), h2))
    else none)
    else none) := zblk r [18, 228, 261, 304, 337, 360, 423, 446, 479, 522, 545, 568, 601, 634, 667, 700, 723, 756, 789, 812, 835, 858, 881, 914, 947, 970, 993, 1026, 1059, 1092, 1115, 1148, 1191, 1214, 1227, 1260, 1293, 1316, 1339, 1372, 1385, 1399, 1413, 1436, 1449, 1472, 1486] 1017 _ _ _ _ _
set_option maxRecDepth 100000 in
theorem E_L_law_812 (r : zE) (h : zH) (l0 : Nat) (l1 : Nat) (l2 : Nat) (l3 : Int32) : zev r i_L_law 812 [some (.ref l0), some (.ref l1), some (.ref l2), some (.int l3)] [] h =
    ((zaI r h l0 (l3 + (1 : Int32))).bind fun v1 =>
    if zob r h l1 5 = true then
    (zcI (zev r i_X5_undo 0 [some (.ref l1), some (.int v1), none] [] h) fun v2 h1 =>
    (zaI r h1 l0 (l3 + (1 : Int32))).bind fun v3 =>
    if zob r h1 l2 6 = true then
    (zcI (zev r i_X6_undo 0 [some (.ref l2), some (.int v3), none, none] [] h1) fun v4 h2 =>
    if v2 = v4 then
      zev r i_L_law 1486 [some (.ref l0), some (.ref l1), some (.ref l2), some (.int l3)] [] h2
    else
      some (some (.int (0 : Int32)), h2))
    else none)
    else none) := zblk r [18, 228, 261, 304, 337, 360, 423, 446, 479, 522, 545, 568, 601, 634, 667, 700, 723, 756, 789, 812, 835, 858, 881, 914, 947, 970, 993, 1026, 1059, 1092, 1115, 1148, 1191, 1214, 1227, 1260, 1293, 1316, 1339, 1372, 1385, 1399, 1413, 1436, 1449, 1472, 1486] 1017 _ _ _ _ _
set_option maxRecDepth 100000 in
theorem E_L_law_835 (r : zE) (h : zH) (l0 : Nat) (l1 : Nat) (l2 : Nat) (l3 : Int32) : zev r i_L_law 835 [some (.ref l0), some (.ref l1), some (.ref l2), some (.int l3)] [] h =
    ((zaI r h l0 (l3 + (1 : Int32))).bind fun v1 =>
    if zob r h l1 5 = true then
    (zcI (zev r i_X5_keep 0 [some (.ref l1), some (.int v1)] [] h) fun v2 h1 =>
    (zaI r h1 l0 (l3 + (1 : Int32))).bind fun v3 =>
    if zob r h1 l2 6 = true then
    (zcI (zev r i_X6_keep 0 [some (.ref l2), some (.int v3)] [] h1) fun v4 h2 =>
    if v2 = v4 then
      zev r i_L_law 1486 [some (.ref l0), some (.ref l1), some (.ref l2), some (.int l3)] [] h2
    else
      some (some (.int (0 : Int32)), h2))
    else none)
    else none) := zblk r [18, 228, 261, 304, 337, 360, 423, 446, 479, 522, 545, 568, 601, 634, 667, 700, 723, 756, 789, 812, 835, 858, 881, 914, 947, 970, 993, 1026, 1059, 1092, 1115, 1148, 1191, 1214, 1227, 1260, 1293, 1316, 1339, 1372, 1385, 1399, 1413, 1436, 1449, 1472, 1486] 1017 _ _ _ _ _
set_option maxRecDepth 100000 in
theorem E_L_law_858 (r : zE) (h : zH) (l0 : Nat) (l1 : Nat) (l2 : Nat) (l3 : Int32) : zev r i_L_law 858 [some (.ref l0), some (.ref l1), some (.ref l2), some (.int l3)] [] h =
    ((zaI r h l0 (l3 + (1 : Int32))).bind fun v1 =>
    if zob r h l1 5 = true then
    (zcI (zev r i_X5_on 0 [some (.ref l1), some (.int v1)] [] h) fun v2 h1 =>
    (zaI r h1 l0 (l3 + (1 : Int32))).bind fun v3 =>
    if zob r h1 l2 6 = true then
    (zcI (zev r i_X6_on 0 [some (.ref l2), some (.int v3)] [] h1) fun v4 h2 =>
    if v2 = v4 then
      zev r i_L_law 1486 [some (.ref l0), some (.ref l1), some (.ref l2), some (.int l3)] [] h2
    else
      some (some (.int (0 : Int32)), h2))
    else none)
    else none) := zblk r [18, 228, 261, 304, 337, 360, 423, 446, 479, 522, 545, 568, 601, 634, 667, 700, 723, 756, 789, 812, 835, 858, 881, 914, 947, 970, 993, 1026, 1059, 1092, 1115, 1148, 1191, 1214, 1227, 1260, 1293, 1316, 1339, 1372, 1385, 1399, 1413, 1436, 1449, 1472, 1486] 1017 _ _ _ _ _
set_option maxRecDepth 100000 in
theorem E_L_law_881 (r : zE) (h : zH) (l0 : Nat) (l1 : Nat) (l2 : Nat) (l3 : Int32) : zev r i_L_law 881 [some (.ref l0), some (.ref l1), some (.ref l2), some (.int l3)] [] h =
    ((zaI r h l0 (l3 + (1 : Int32))).bind fun v1 =>
    (zaI r h l0 (l3 + (2 : Int32))).bind fun v2 =>
    if zob r h l1 5 = true then
    (zcI (zev r i_X5_neighbours 0 [some (.ref l1), some (.int v1), some (.int v2)] [] h) fun v3 h1 =>
    (zaI r h1 l0 (l3 + (1 : Int32))).bind fun v4 =>
    (zaI r h1 l0 (l3 + (2 : Int32))).bind fun v5 =>
    if zob r h1 l2 6 = true then
    (zcI (zev r i_X6_neighbours 0 [some (.ref l2), some (.int v4), some (.int v5)] [] h1) fun v6 h2 =>
    if v3 = v6 then
      zev r i_L_law 1486 [some (.ref l0), some (.ref l1), some (.ref l2), some (.int l3)] [] h2
    else
      some (some (.int (0 : Int32)), h2))
    else none)
    else none) := zblk r [18, 228, 261, 304, 337, 360, 423, 446, 479, 522, 545, 568, 601, 634, 667, 700, 723, 756, 789, 812, 835, 858, 881, 914, 947, 970, 993, 1026, 1059, 1092, 1115, 1148, 1191, 1214, 1227, 1260, 1293, 1316, 1339, 1372, 1385, 1399, 1413, 1436, 1449, 1472, 1486] 1017 _ _ _ _ _
set_option maxRecDepth 100000 in
theorem E_L_law_914 (r : zE) (h : zH) (l0 : Nat) (l1 : Nat) (l2 : Nat) (l3 : Int32) : zev r i_L_law 914 [some (.ref l0), some (.ref l1), some (.ref l2), some (.int l3)] [] h =
    ((zaI r h l0 (l3 + (1 : Int32))).bind fun v1 =>
    (zaI r h l0 (l3 + (2 : Int32))).bind fun v2 =>
    if zob r h l1 5 = true then
    (zcI (zev r i_X5_woken 0 [some (.ref l1), some (.int v1), some (.int v2)] [] h) fun v3 h1 =>
    (zaI r h1 l0 (l3 + (1 : Int32))).bind fun v4 =>
    (zaI r h1 l0 (l3 + (2 : Int32))).bind fun v5 =>
    if zob r h1 l2 6 = true then
    (zcI (zev r i_X6_woken 0 [some (.ref l2), some (.int v4), some (.int v5)] [] h1) fun v6 h2 =>
    if v3 = v6 then
      zev r i_L_law 1486 [some (.ref l0), some (.ref l1), some (.ref l2), some (.int l3)] [] h2
    else
      some (some (.int (0 : Int32)), h2))
    else none)
    else none) := zblk r [18, 228, 261, 304, 337, 360, 423, 446, 479, 522, 545, 568, 601, 634, 667, 700, 723, 756, 789, 812, 835, 858, 881, 914, 947, 970, 993, 1026, 1059, 1092, 1115, 1148, 1191, 1214, 1227, 1260, 1293, 1316, 1339, 1372, 1385, 1399, 1413, 1436, 1449, 1472, 1486] 1017 _ _ _ _ _
set_option maxRecDepth 100000 in
theorem E_L_law_947 (r : zE) (h : zH) (l0 : Nat) (l1 : Nat) (l2 : Nat) (l3 : Int32) : zev r i_L_law 947 [some (.ref l0), some (.ref l1), some (.ref l2), some (.int l3)] [] h =
    ((zaI r h l0 (l3 + (1 : Int32))).bind fun v1 =>
    if zob r h l1 5 = true then
    (zcI (zev r i_X5_all 0 [some (.ref l1), some (.int v1)] [] h) fun v2 h1 =>
    (zaI r h1 l0 (l3 + (1 : Int32))).bind fun v3 =>
    if zob r h1 l2 6 = true then
    (zcI (zev r i_X6_all 0 [some (.ref l2), some (.int v3)] [] h1) fun v4 h2 =>
    if v2 = v4 then
      zev r i_L_law 1486 [some (.ref l0), some (.ref l1), some (.ref l2), some (.int l3)] [] h2
    else
      some (some (.int (0 : Int32)), h2))
    else none)
    else none) := zblk r [18, 228, 261, 304, 337, 360, 423, 446, 479, 522, 545, 568, 601, 634, 667, 700, 723, 756, 789, 812, 835, 858, 881, 914, 947, 970, 993, 1026, 1059, 1092, 1115, 1148, 1191, 1214, 1227, 1260, 1293, 1316, 1339, 1372, 1385, 1399, 1413, 1436, 1449, 1472, 1486] 1017 _ _ _ _ _
set_option maxRecDepth 100000 in
theorem E_L_law_970 (r : zE) (h : zH) (l0 : Nat) (l1 : Nat) (l2 : Nat) (l3 : Int32) : zev r i_L_law 970 [some (.ref l0), some (.ref l1), some (.ref l2), some (.int l3)] [] h =
    ((zaI r h l0 (l3 + (1 : Int32))).bind fun v1 =>
    if zob r h l1 5 = true then
    (zcI (zev r i_X5_worst 0 [some (.ref l1), some (.int v1), none, none, none, none] [] h) fun v2 h1 =>
    (zaI r h1 l0 (l3 + (1 : Int32))).bind fun v3 =>
    if zob r h1 l2 6 = true then
    (zcI (zev r i_X6_worst 0 [some (.ref l2), some (.int v3), none, none, none, none] [] h1) fun v4 h2 =>
    if v2 = v4 then
      zev r i_L_law 1486 [some (.ref l0), some (.ref l1), some (.ref l2), some (.int l3)] [] h2
    else
      some (some (.int (0 : Int32)), h2))
    else none)
    else none) := zblk r [18, 228, 261, 304, 337, 360, 423, 446, 479, 522, 545, 568, 601, 634, 667, 700, 723, 756, 789, 812, 835, 858, 881, 914, 947, 970, 993, 1026, 1059, 1092, 1115, 1148, 1191, 1214, 1227, 1260, 1293, 1316, 1339, 1372, 1385, 1399, 1413, 1436, 1449, 1472, 1486] 1017 _ _ _ _ _
set_option maxRecDepth 100000 in
theorem E_L_law_993 (r : zE) (h : zH) (l0 : Nat) (l1 : Nat) (l2 : Nat) (l3 : Int32) : zev r i_L_law 993 [some (.ref l0), some (.ref l1), some (.ref l2), some (.int l3)] [] h =
    ((zaI r h l0 (l3 + (1 : Int32))).bind fun v1 =>
    (zaI r h l0 (l3 + (2 : Int32))).bind fun v2 =>
    if zob r h l1 5 = true then
    (zcI (zev r i_X5_by 0 [some (.ref l1), some (.int v1), some (.int v2), none, none, none, none, none] [] h) fun v3 h1 =>
    (zaI r h1 l0 (l3 + (1 : Int32))).bind fun v4 =>
    (zaI r h1 l0 (l3 + (2 : Int32))).bind fun v5 =>
    if zob r h1 l2 6 = true then
    (zcI (zev r i_X6_by 0 [some (.ref l2), some (.int v4), some (.int v5), none, none, none, none, none] [] h1) fun v6 h2 =>
    if v3 = v6 then
      zev r i_L_law 1486 [some (.ref l0), some (.ref l1), some (.ref l2), some (.int l3)] [] h2
    else
      some (some (.int (0 : Int32)), h2))
    else none)
    else none) := zblk r [18, 228, 261, 304, 337, 360, 423, 446, 479, 522, 545, 568, 601, 634, 667, 700, 723, 756, 789, 812, 835, 858, 881, 914, 947, 970, 993, 1026, 1059, 1092, 1115, 1148, 1191, 1214, 1227, 1260, 1293, 1316, 1339, 1372, 1385, 1399, 1413, 1436, 1449, 1472, 1486] 1017 _ _ _ _ _
set_option maxRecDepth 100000 in
theorem E_L_law_1026 (r : zE) (h : zH) (l0 : Nat) (l1 : Nat) (l2 : Nat) (l3 : Int32) : zev r i_L_law 1026 [some (.ref l0), some (.ref l1), some (.ref l2), some (.int l3)] [] h =
    ((zaI r h l0 (l3 + (1 : Int32))).bind fun v1 =>
    (zaI r h l0 (l3 + (2 : Int32))).bind fun v2 =>
    if zob r h l1 5 = true then
    (zcI (zev r i_X5_best 0 [some (.ref l1), some (.int v1), some (.int v2)] [] h) fun v3 h1 =>
    (zaI r h1 l0 (l3 + (1 : Int32))).bind fun v4 =>
    (zaI r h1 l0 (l3 + (2 : Int32))).bind fun v5 =>
    if zob r h1 l2 6 = true then
    (zcI (zev r i_X6_best 0 [some (.ref l2), some (.int v4), some (.int v5)] [] h1) fun v6 h2 =>
    if v3 = v6 then
      zev r i_L_law 1486 [some (.ref l0), some (.ref l1), some (.ref l2), some (.int l3)] [] h2
    else
      some (some (.int (0 : Int32)), h2))
    else none)
    else none) := zblk r [18, 228, 261, 304, 337, 360, 423, 446, 479, 522, 545, 568, 601, 634, 667, 700, 723, 756, 789, 812, 835, 858, 881, 914, 947, 970, 993, 1026, 1059, 1092, 1115, 1148, 1191, 1214, 1227, 1260, 1293, 1316, 1339, 1372, 1385, 1399, 1413, 1436, 1449, 1472, 1486] 1017 _ _ _ _ _
set_option maxRecDepth 100000 in
theorem E_L_law_1059 (r : zE) (h : zH) (l0 : Nat) (l1 : Nat) (l2 : Nat) (l3 : Int32) : zev r i_L_law 1059 [some (.ref l0), some (.ref l1), some (.ref l2), some (.int l3)] [] h =
    ((zaI r h l0 (l3 + (1 : Int32))).bind fun v1 =>
    (zaI r h l0 (l3 + (2 : Int32))).bind fun v2 =>
    if zob r h l1 5 = true then
    (zcI (zev r i_X5_fair 0 [some (.ref l1), some (.int v1), some (.int v2)] [] h) fun v3 h1 =>
    (zaI r h1 l0 (l3 + (1 : Int32))).bind fun v4 =>
    (zaI r h1 l0 (l3 + (2 : Int32))).bind fun v5 =>
    if zob r h1 l2 6 = true then
    (zcI (zev r i_X6_fair 0 [some (.ref l2), some (.int v4), some (.int v5)] [] h1) fun v6 h2 =>
    if v3 = v6 then
      zev r i_L_law 1486 [some (.ref l0), some (.ref l1), some (.ref l2), some (.int l3)] [] h2
    else
      some (some (.int (0 : Int32)), h2))
    else none)
    else none) := zblk r [18, 228, 261, 304, 337, 360, 423, 446, 479, 522, 545, 568, 601, 634, 667, 700, 723, 756, 789, 812, 835, 858, 881, 914, 947, 970, 993, 1026, 1059, 1092, 1115, 1148, 1191, 1214, 1227, 1260, 1293, 1316, 1339, 1372, 1385, 1399, 1413, 1436, 1449, 1472, 1486] 1017 _ _ _ _ _
set_option maxRecDepth 100000 in
theorem E_L_law_1092 (r : zE) (h : zH) (l0 : Nat) (l1 : Nat) (l2 : Nat) (l3 : Int32) : zev r i_L_law 1092 [some (.ref l0), some (.ref l1), some (.ref l2), some (.int l3)] [] h =
    ((zaI r h l0 (l3 + (1 : Int32))).bind fun v1 =>
    if zob r h l1 5 = true then
    (zcI (zev r i_X5_mixed 0 [some (.ref l1), some (.int v1)] [] h) fun v2 h1 =>
    (zaI r h1 l0 (l3 + (1 : Int32))).bind fun v3 =>
    if zob r h1 l2 6 = true then
    (zcI (zev r i_X6_mixed 0 [some (.ref l2), some (.int v3)] [] h1) fun v4 h2 =>
    if v2 = v4 then
      zev r i_L_law 1486 [some (.ref l0), some (.ref l1), some (.ref l2), some (.int l3)] [] h2
    else
      some (some (.int (0 : Int32)), h2))
    else none)
    else none) := zblk r [18, 228, 261, 304, 337, 360, 423, 446, 479, 522, 545, 568, 601, 634, 667, 700, 723, 756, 789, 812, 835, 858, 881, 914, 947, 970, 993, 1026, 1059, 1092, 1115, 1148, 1191, 1214, 1227, 1260, 1293, 1316, 1339, 1372, 1385, 1399, 1413, 1436, 1449, 1472, 1486] 1017 _ _ _ _ _
set_option maxRecDepth 100000 in
theorem E_L_law_1115 (r : zE) (h : zH) (l0 : Nat) (l1 : Nat) (l2 : Nat) (l3 : Int32) : zev r i_L_law 1115 [some (.ref l0), some (.ref l1), some (.ref l2), some (.int l3)] [] h =
    ((zaI r h l0 (l3 + (1 : Int32))).bind fun v1 =>
    (zaI r h l0 (l3 + (2 : Int32))).bind fun v2 =>
    if zob r h l1 5 = true then
    (zcI (zev r i_X5_judge 0 [some (.ref l1), some (.int v1), some (.int v2), none] [] h) fun v3 h1 =>
    (zaI r h1 l0 (l3 + (1 : Int32))).bind fun v4 =>
    (zaI r h1 l0 (l3 + (2 : Int32))).bind fun v5 =>
    if zob r h1 l2 6 = true then
    (zcI (zev r i_X6_judge 0 [some (.ref l2), some (.int v4), some (.int v5)] [] h1) fun v6 h2 =>
    if v3 = v6 then
      zev r i_L_law 1486 [some (.ref l0), some (.ref l1), some (.ref l2), some (.int l3)] [] h2
    else
      some (some (.int (0 : Int32)), h2))
    else none)
    else none) := zblk r [18, 228, 261, 304, 337, 360, 423, 446, 479, 522, 545, 568, 601, 634, 667, 700, 723, 756, 789, 812, 835, 858, 881, 914, 947, 970, 993, 1026, 1059, 1092, 1115, 1148, 1191, 1214, 1227, 1260, 1293, 1316, 1339, 1372, 1385, 1399, 1413, 1436, 1449, 1472, 1486] 1017 _ _ _ _ _
set_option maxRecDepth 100000 in
theorem E_L_law_1148 (r : zE) (h : zH) (l0 : Nat) (l1 : Nat) (l2 : Nat) (l3 : Int32) : zev r i_L_law 1148 [some (.ref l0), some (.ref l1), some (.ref l2), some (.int l3)] [] h =
    ((zaI r h l0 (l3 + (1 : Int32))).bind fun v1 =>
    (zaI r h l0 (l3 + (2 : Int32))).bind fun v2 =>
    (zaI r h l0 (l3 + (3 : Int32))).bind fun v3 =>
    if zob r h l1 5 = true then
    (zcI (zev r i_X5_gain 0 [some (.ref l1), some (.int v1), some (.int v2), some (.int v3)] [] h) fun v4 h1 =>
    (zaI r h1 l0 (l3 + (1 : Int32))).bind fun v5 =>
    (zaI r h1 l0 (l3 + (2 : Int32))).bind fun v6 =>
    (zaI r h1 l0 (l3 + (3 : Int32))).bind fun v7 =>
    if zob r h1 l2 6 = true then
    (zcI (zev r i_X6_gain 0 [some (.ref l2), some (.int v5), some (.int v6), some (.int v7), none] [] h1) fun v8 h2 =>
    if v4 = v8 then
      zev r i_L_law 1486 [some (.ref l0), some (.ref l1), some (.ref l2), some (.int l3)] [] h2
    else
      some (some (.int (0 : Int32)), h2))
    else none)
    else none) := zblk r [18, 228, 261, 304, 337, 360, 423, 446, 479, 522, 545, 568, 601, 634, 667, 700, 723, 756, 789, 812, 835, 858, 881, 914, 947, 970, 993, 1026, 1059, 1092, 1115, 1148, 1191, 1214, 1227, 1260, 1293, 1316, 1339, 1372, 1385, 1399, 1413, 1436, 1449, 1472, 1486] 1017 _ _ _ _ _
set_option maxRecDepth 100000 in
theorem E_L_law_1191 (r : zE) (h : zH) (l0 : Nat) (l1 : Nat) (l2 : Nat) (l3 : Int32) : zev r i_L_law 1191 [some (.ref l0), some (.ref l1), some (.ref l2), some (.int l3)] [] h =
    ((zaI r h l0 (l3 + (1 : Int32))).bind fun v1 =>
    if zob r h l1 5 = true then
    (zcI (zev r i_X5_calm 0 [some (.ref l1), some (.int v1), none] [] h) fun v2 h1 =>
    (zaI r h1 l0 (l3 + (1 : Int32))).bind fun v3 =>
    if zob r h1 l2 6 = true then
    (zcI (zev r i_X6_calm 0 [some (.ref l2), some (.int v3), none, none] [] h1) fun v4 h2 =>
    if v2 = v4 then
      zev r i_L_law 1486 [some (.ref l0), some (.ref l1), some (.ref l2), some (.int l3)] [] h2
    else
      some (some (.int (0 : Int32)), h2))
    else none)
    else none) := zblk r [18, 228, 261, 304, 337, 360, 423, 446, 479, 522, 545, 568, 601, 634, 667, 700, 723, 756, 789, 812, 835, 858, 881, 914, 947, 970, 993, 1026, 1059, 1092, 1115, 1148, 1191, 1214, 1227, 1260, 1293, 1316, 1339, 1372, 1385, 1399, 1413, 1436, 1449, 1472, 1486] 1017 _ _ _ _ _
set_option maxRecDepth 100000 in
theorem E_L_law_1214 (r : zE) (h : zH) (l0 : Nat) (l1 : Nat) (l2 : Nat) (l3 : Int32) : zev r i_L_law 1214 [some (.ref l0), some (.ref l1), some (.ref l2), some (.int l3)] [] h =
    (if zob r h l1 5 = true then
    (zcI (zev r i_X5_mates 0 [some (.ref l1), none, none] [] h) fun v1 h1 =>
    if zob r h1 l2 6 = true then
    (zcI (zev r i_X6_mates 0 [some (.ref l2), none, none, none] [] h1) fun v2 h2 =>
    if v1 = v2 then
      zev r i_L_law 1486 [some (.ref l0), some (.ref l1), some (.ref l2), some (.int l3)] [] h2
    else
      some (some (.int (0 : Int32)), h2))
    else none)
    else none) := zblk r [18, 228, 261, 304, 337, 360, 423, 446, 479, 522, 545, 568, 601, 634, 667, 700, 723, 756, 789, 812, 835, 858, 881, 914, 947, 970, 993, 1026, 1059, 1092, 1115, 1148, 1191, 1214, 1227, 1260, 1293, 1316, 1339, 1372, 1385, 1399, 1413, 1436, 1449, 1472, 1486] 1017 _ _ _ _ _
set_option maxRecDepth 100000 in
theorem E_L_law_1227 (r : zE) (h : zH) (l0 : Nat) (l1 : Nat) (l2 : Nat) (l3 : Int32) : zev r i_L_law 1227 [some (.ref l0), some (.ref l1), some (.ref l2), some (.int l3)] [] h =
    ((zaI r h l0 (l3 + (1 : Int32))).bind fun v1 =>
    (zaI r h l0 (l3 + (2 : Int32))).bind fun v2 =>
    if zob r h l1 5 = true then
    (zcI (zev r i_X5_cut 0 [some (.ref l1), some (.int v1), some (.int v2), none, none, none, none] [] h) fun v3 h1 =>
    (zaI r h1 l0 (l3 + (1 : Int32))).bind fun v4 =>
    (zaI r h1 l0 (l3 + (2 : Int32))).bind fun v5 =>
    if zob r h1 l2 6 = true then
    (zcI (zev r i_X6_cut 0 [some (.ref l2), some (.int v4), some (.int v5), none, none, none, none] [] h1) fun v6 h2 =>
    if v3 = v6 then
      zev r i_L_law 1486 [some (.ref l0), some (.ref l1), some (.ref l2), some (.int l3)] [] h2
    else
      some (some (.int (0 : Int32)), h2))
    else none)
    else none) := zblk r [18, 228, 261, 304, 337, 360, 423, 446, 479, 522, 545, 568, 601, 634, 667, 700, 723, 756, 789, 812, 835, 858, 881, 914, 947, 970, 993, 1026, 1059, 1092, 1115, 1148, 1191, 1214, 1227, 1260, 1293, 1316, 1339, 1372, 1385, 1399, 1413, 1436, 1449, 1472, 1486] 1017 _ _ _ _ _
set_option maxRecDepth 100000 in
theorem E_L_law_1260 (r : zE) (h : zH) (l0 : Nat) (l1 : Nat) (l2 : Nat) (l3 : Int32) : zev r i_L_law 1260 [some (.ref l0), some (.ref l1), some (.ref l2), some (.int l3)] [] h =
    ((zaI r h l0 (l3 + (1 : Int32))).bind fun v1 =>
    (zaI r h l0 (l3 + (2 : Int32))).bind fun v2 =>
    if zob r h l1 5 = true then
    (zcI (zev r i_X5_up 0 [some (.ref l1), some (.int v1), some (.int v2), none, none, none, none, none] [] h) fun v3 h1 =>
    (zaI r h1 l0 (l3 + (1 : Int32))).bind fun v4 =>
    (zaI r h1 l0 (l3 + (2 : Int32))).bind fun v5 =>
    if zob r h1 l2 6 = true then
    (zcI (zev r i_X6_up 0 [some (.ref l2), some (.int v4), some (.int v5), none, none, none, none, none] [] h1) fun v6 h2 =>
    if v3 = v6 then
      zev r i_L_law 1486 [some (.ref l0), some (.ref l1), some (.ref l2), some (.int l3)] [] h2
    else
      some (some (.int (0 : Int32)), h2))
    else none)
    else none) := zblk r [18, 228, 261, 304, 337, 360, 423, 446, 479, 522, 545, 568, 601, 634, 667, 700, 723, 756, 789, 812, 835, 858, 881, 914, 947, 970, 993, 1026, 1059, 1092, 1115, 1148, 1191, 1214, 1227, 1260, 1293, 1316, 1339, 1372, 1385, 1399, 1413, 1436, 1449, 1472, 1486] 1017 _ _ _ _ _
set_option maxRecDepth 100000 in
theorem E_L_law_1293 (r : zE) (h : zH) (l0 : Nat) (l1 : Nat) (l2 : Nat) (l3 : Int32) : zev r i_L_law 1293 [some (.ref l0), some (.ref l1), some (.ref l2), some (.int l3)] [] h =
    ((zaI r h l0 (l3 + (1 : Int32))).bind fun v1 =>
    if zob r h l1 5 = true then
    (zcI (zev r i_X5_fits 0 [some (.ref l1), some (.int v1), none, none] [] h) fun v2 h1 =>
    (zaI r h1 l0 (l3 + (1 : Int32))).bind fun v3 =>
    if zob r h1 l2 6 = true then
    (zcI (zev r i_X6_fits 0 [some (.ref l2), some (.int v3), none, none, none] [] h1) fun v4 h2 =>
    if v2 = v4 then
      zev r i_L_law 1486 [some (.ref l0), some (.ref l1), some (.ref l2), some (.int l3)] [] h2
    else
      some (some (.int (0 : Int32)), h2))
    else none)
    else none) := zblk r [18, 228, 261, 304, 337, 360, 423, 446, 479, 522, 545, 568, 601, 634, 667, 700, 723, 756, 789, 812, 835, 858, 881, 914, 947, 970, 993, 1026, 1059, 1092, 1115, 1148, 1191, 1214, 1227, 1260, 1293, 1316, 1339, 1372, 1385, 1399, 1413, 1436, 1449, 1472, 1486] 1017 _ _ _ _ _
set_option maxRecDepth 100000 in
theorem E_L_law_1316 (r : zE) (h : zH) (l0 : Nat) (l1 : Nat) (l2 : Nat) (l3 : Int32) : zev r i_L_law 1316 [some (.ref l0), some (.ref l1), some (.ref l2), some (.int l3)] [] h =
    ((zaI r h l0 (l3 + (1 : Int32))).bind fun v1 =>
    if zob r h l1 5 = true then
    (zcI (zev r i_X5_mid 0 [some (.ref l1), some (.int v1), none, none, none] [] h) fun v2 h1 =>
    (zaI r h1 l0 (l3 + (1 : Int32))).bind fun v3 =>
    if zob r h1 l2 6 = true then
    (zcI (zev r i_X6_mid 0 [some (.ref l2), some (.int v3), none, none, none, none, none, none, none, none, none, none, none] [] h1) fun v4 h2 =>
    if v2 = v4 then
      zev r i_L_law 1486 [some (.ref l0), some (.ref l1), some (.ref l2), some (.int l3)] [] h2
    else
      some (some (.int (0 : Int32)), h2))
    else none)
    else none) := zblk r [18, 228, 261, 304, 337, 360, 423, 446, 479, 522, 545, 568, 601, 634, 667, 700, 723, 756, 789, 812, 835, 858, 881, 914, 947, 970, 993, 1026, 1059, 1092, 1115, 1148, 1191, 1214, 1227, 1260, 1293, 1316, 1339, 1372, 1385, 1399, 1413, 1436, 1449, 1472, 1486] 1017 _ _ _ _ _
set_option maxRecDepth 100000 in
theorem E_L_law_1339 (r : zE) (h : zH) (l0 : Nat) (l1 : Nat) (l2 : Nat) (l3 : Int32) : zev r i_L_law 1339 [some (.ref l0), some (.ref l1), some (.ref l2), some (.int l3)] [] h =
    ((zaI r h l0 (l3 + (1 : Int32))).bind fun v1 =>
    (zaI r h l0 (l3 + (2 : Int32))).bind fun v2 =>
    if zob r h l1 5 = true then
    (zcI (zev r i_X5_lots 0 [some (.ref l1), some (.int v1), some (.int v2), none, none, none, none] [] h) fun v3 h1 =>
    (zaI r h1 l0 (l3 + (1 : Int32))).bind fun v4 =>
    (zaI r h1 l0 (l3 + (2 : Int32))).bind fun v5 =>
    if zob r h1 l2 6 = true then
    (zcI (zev r i_X6_lots 0 [some (.ref l2), some (.int v4), some (.int v5), none, none, none, none] [] h1) fun v6 h2 =>
    if v3 = v6 then
      zev r i_L_law 1486 [some (.ref l0), some (.ref l1), some (.ref l2), some (.int l3)] [] h2
    else
      some (some (.int (0 : Int32)), h2))
    else none)
    else none) := zblk r [18, 228, 261, 304, 337, 360, 423, 446, 479, 522, 545, 568, 601, 634, 667, 700, 723, 756, 789, 812, 835, 858, 881, 914, 947, 970, 993, 1026, 1059, 1092, 1115, 1148, 1191, 1214, 1227, 1260, 1293, 1316, 1339, 1372, 1385, 1399, 1413, 1436, 1449, 1472, 1486] 1017 _ _ _ _ _
set_option maxRecDepth 100000 in
theorem E_L_law_1372 (r : zE) (h : zH) (l0 : Nat) (l1 : Nat) (l2 : Nat) (l3 : Int32) : zev r i_L_law 1372 [some (.ref l0), some (.ref l1), some (.ref l2), some (.int l3)] [] h =
    (if zob r h l1 5 = true then
    (zcI (zev r i_X5_asked 0 [some (.ref l1)] [] h) fun v1 h1 =>
    if zob r h1 l2 6 = true then
    (zcI (zev r i_X6_asked 0 [some (.ref l2)] [] h1) fun v2 h2 =>
    if v1 = v2 then
      zev r i_L_law 1486 [some (.ref l0), some (.ref l1), some (.ref l2), some (.int l3)] [] h2
    else
      some (some (.int (0 : Int32)), h2))
    else none)
    else none) := zblk r [18, 228, 261, 304, 337, 360, 423, 446, 479, 522, 545, 568, 601, 634, 667, 700, 723, 756, 789, 812, 835, 858, 881, 914, 947, 970, 993, 1026, 1059, 1092, 1115, 1148, 1191, 1214, 1227, 1260, 1293, 1316, 1339, 1372, 1385, 1399, 1413, 1436, 1449, 1472, 1486] 1017 _ _ _ _ _
set_option maxRecDepth 100000 in
theorem E_L_law_1385 (r : zE) (h : zH) (l0 : Nat) (l1 : Nat) (l2 : Nat) (l3 : Int32) : zev r i_L_law 1385 [some (.ref l0), some (.ref l1), some (.ref l2), some (.int l3)] [] h =
    (if zob r h l1 5 = true then
    (zcL (zev r i_X5_upper 0 [some (.ref l1)] [] h) fun v1 h1 =>
    if zob r h1 l2 6 = true then
    (zcL (zev r i_X6_upper 0 [some (.ref l2)] [] h1) fun v2 h2 =>
    if (lg_cmp v1 v2) = 0 then
      zev r i_L_law 1486 [some (.ref l0), some (.ref l1), some (.ref l2), some (.int l3)] [] h2
    else
      some (some (.int (0 : Int32)), h2))
    else none)
    else none) := zblk r [18, 228, 261, 304, 337, 360, 423, 446, 479, 522, 545, 568, 601, 634, 667, 700, 723, 756, 789, 812, 835, 858, 881, 914, 947, 970, 993, 1026, 1059, 1092, 1115, 1148, 1191, 1214, 1227, 1260, 1293, 1316, 1339, 1372, 1385, 1399, 1413, 1436, 1449, 1472, 1486] 1017 _ _ _ _ _
set_option maxRecDepth 100000 in
theorem E_L_law_1399 (r : zE) (h : zH) (l0 : Nat) (l1 : Nat) (l2 : Nat) (l3 : Int32) : zev r i_L_law 1399 [some (.ref l0), some (.ref l1), some (.ref l2), some (.int l3)] [] h =
    (if zob r h l1 5 = true then
    (zcL (zev r i_X5_lower 0 [some (.ref l1)] [] h) fun v1 h1 =>
    if zob r h1 l2 6 = true then
    (zcL (zev r i_X6_lower 0 [some (.ref l2)] [] h1) fun v2 h2 =>
    if (lg_cmp v1 v2) = 0 then
      zev r i_L_law 1486 [some (.ref l0), some (.ref l1), some (.ref l2), some (.int l3)] [] h2
    else
      some (some (.int (0 : Int32)), h2))
    else none)
    else none) := zblk r [18, 228, 261, 304, 337, 360, 423, 446, 479, 522, 545, 568, 601, 634, 667, 700, 723, 756, 789, 812, 835, 858, 881, 914, 947, 970, 993, 1026, 1059, 1092, 1115, 1148, 1191, 1214, 1227, 1260, 1293, 1316, 1339, 1372, 1385, 1399, 1413, 1436, 1449, 1472, 1486] 1017 _ _ _ _ _
set_option maxRecDepth 100000 in
theorem E_L_law_1413 (r : zE) (h : zH) (l0 : Nat) (l1 : Nat) (l2 : Nat) (l3 : Int32) : zev r i_L_law 1413 [some (.ref l0), some (.ref l1), some (.ref l2), some (.int l3)] [] h =
    ((zaI r h l0 (l3 + (1 : Int32))).bind fun v1 =>
    if zob r h l1 5 = true then
    (zcI (zev r i_X5_count 0 [some (.ref l1), some (.int v1)] [] h) fun v2 h1 =>
    (zaI r h1 l0 (l3 + (1 : Int32))).bind fun v3 =>
    if zob r h1 l2 6 = true then
    (zcI (zev r i_X6_count 0 [some (.ref l2), some (.int v3)] [] h1) fun v4 h2 =>
    if v2 = v4 then
      zev r i_L_law 1486 [some (.ref l0), some (.ref l1), some (.ref l2), some (.int l3)] [] h2
    else
      some (some (.int (0 : Int32)), h2))
    else none)
    else none) := zblk r [18, 228, 261, 304, 337, 360, 423, 446, 479, 522, 545, 568, 601, 634, 667, 700, 723, 756, 789, 812, 835, 858, 881, 914, 947, 970, 993, 1026, 1059, 1092, 1115, 1148, 1191, 1214, 1227, 1260, 1293, 1316, 1339, 1372, 1385, 1399, 1413, 1436, 1449, 1472, 1486] 1017 _ _ _ _ _
set_option maxRecDepth 100000 in
theorem E_L_law_1436 (r : zE) (h : zH) (l0 : Nat) (l1 : Nat) (l2 : Nat) (l3 : Int32) : zev r i_L_law 1436 [some (.ref l0), some (.ref l1), some (.ref l2), some (.int l3)] [] h =
    (if zob r h l1 5 = true then
    (zcI (zev r i_X5_finding 0 [some (.ref l1)] [] h) fun v1 h1 =>
    if zob r h1 l2 6 = true then
    (zcI (zev r i_X6_finding 0 [some (.ref l2)] [] h1) fun v2 h2 =>
    if v1 = v2 then
      zev r i_L_law 1486 [some (.ref l0), some (.ref l1), some (.ref l2), some (.int l3)] [] h2
    else
      some (some (.int (0 : Int32)), h2))
    else none)
    else none) := zblk r [18, 228, 261, 304, 337, 360, 423, 446, 479, 522, 545, 568, 601, 634, 667, 700, 723, 756, 789, 812, 835, 858, 881, 914, 947, 970, 993, 1026, 1059, 1092, 1115, 1148, 1191, 1214, 1227, 1260, 1293, 1316, 1339, 1372, 1385, 1399, 1413, 1436, 1449, 1472, 1486] 1017 _ _ _ _ _
set_option maxRecDepth 100000 in
theorem E_L_law_1449 (r : zE) (h : zH) (l0 : Nat) (l1 : Nat) (l2 : Nat) (l3 : Int32) : zev r i_L_law 1449 [some (.ref l0), some (.ref l1), some (.ref l2), some (.int l3)] [] h =
    ((zaI r h l0 (l3 + (1 : Int32))).bind fun v1 =>
    if zob r h l1 5 = true then
    (zcI (zev r i_X5_findings 0 [some (.ref l1), some (.int v1)] [] h) fun v2 h1 =>
    (zaI r h1 l0 (l3 + (1 : Int32))).bind fun v3 =>
    if zob r h1 l2 6 = true then
    (zcI (zev r i_X6_findings 0 [some (.ref l2), some (.int v3)] [] h1) fun v4 h2 =>
    if v2 = v4 then
      zev r i_L_law 1486 [some (.ref l0), some (.ref l1), some (.ref l2), some (.int l3)] [] h2
    else
      some (some (.int (0 : Int32)), h2))
    else none)
    else none) := zblk r [18, 228, 261, 304, 337, 360, 423, 446, 479, 522, 545, 568, 601, 634, 667, 700, 723, 756, 789, 812, 835, 858, 881, 914, 947, 970, 993, 1026, 1059, 1092, 1115, 1148, 1191, 1214, 1227, 1260, 1293, 1316, 1339, 1372, 1385, 1399, 1413, 1436, 1449, 1472, 1486] 1017 _ _ _ _ _
set_option maxRecDepth 100000 in
theorem E_L_law_1472 (r : zE) (h : zH) (l0 : Nat) (l1 : Nat) (l2 : Nat) (l3 : Int32) : zev r i_L_law 1472 [some (.ref l0), some (.ref l1), some (.ref l2), some (.int l3)] [] h =
    (if zob r h l1 5 = true then
    (zcL (zev r i_X5_digest 0 [some (.ref l1), none, none, none, none] [] h) fun v1 h1 =>
    if zob r h1 l2 6 = true then
    (zcL (zev r i_X6_digest 0 [some (.ref l2), none, none, none, none] [] h1) fun v2 h2 =>
    if (lg_cmp v1 v2) = 0 then
      zev r i_L_law 1486 [some (.ref l0), some (.ref l1), some (.ref l2), some (.int l3)] [] h2
    else
      some (some (.int (0 : Int32)), h2))
    else none)
    else none) := zblk r [18, 228, 261, 304, 337, 360, 423, 446, 479, 522, 545, 568, 601, 634, 667, 700, 723, 756, 789, 812, 835, 858, 881, 914, 947, 970, 993, 1026, 1059, 1092, 1115, 1148, 1191, 1214, 1227, 1260, 1293, 1316, 1339, 1372, 1385, 1399, 1413, 1436, 1449, 1472, 1486] 1017 _ _ _ _ _
set_option maxRecDepth 100000 in
theorem E_L_law_1486 (r : zE) (h : zH) (l0 : Nat) (l1 : Nat) (l2 : Nat) (l3 : Int32) : zev r i_L_law 1486 [some (.ref l0), some (.ref l1), some (.ref l2), some (.int l3)] [] h =
    (zev r i_L_law 18 [some (.ref l0), some (.ref l1), some (.ref l2), some (.int (l3 + (6 : Int32)))] [] h) := zblk r [18, 228, 261, 304, 337, 360, 423, 446, 479, 522, 545, 568, 601, 634, 667, 700, 723, 756, 789, 812, 835, 858, 881, 914, 947, 970, 993, 1026, 1059, 1092, 1115, 1148, 1191, 1214, 1227, 1260, 1293, 1316, 1339, 1372, 1385, 1399, 1413, 1436, 1449, 1472, 1486] 1017 _ _ _ _ _
