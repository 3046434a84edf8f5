def mX8_require (x0 : Int32) : Option Nat :=
  if (x0 = 0) then (some 1)
  else (some 0)
def mX3_settle_L140 (i0 : Nat) (w120 : HS → Option HS) : Nat → Int32 → HS → Option HS
  | 0, _, _ => none
  | fu + 1, x117, u118 =>
    if ((gI u118 3 i0 0) ≤ x117) then (w120 u118)
    else ((mX3_settleTints u118 i0 x117).bind fun u123 =>
    bd (x117 + 1) fun x124 =>
    mX3_settle_L140 i0 w120 fu x124 u123)
def mX3_settle_L88 (i0 : Nat) (w116 : HS → Option HS) : Nat → Int32 → HS → Option HS
  | 0, _, _ => none
  | fu + 1, x113, u114 =>
    if ((gI u114 3 i0 7) ≤ x113) then (w116 u114)
    else (bd (x113 * 3) fun x126 =>
    (ck 72 x126).bind fun k127 =>
    (ck 72 (x126 + 1)).bind fun k128 =>
    (ck 72 (x126 + 2)).bind fun k129 =>
    (ck (gR u114 (10 + i0)) (((gI u114 41 i0 k127) * 300) + (gI u114 41 i0 k128))).bind fun k130 =>
    bd (wI u114 43 i0 k130 (gI u114 41 i0 k129)) fun u131 =>
    bd (x113 + 1) fun x132 =>
    mX3_settle_L88 i0 w116 fu x132 u131)
def mX3_settle_L64 (i0 : Nat) (w112 : HS → Option HS) : Nat → Int32 → HS → Option HS
  | 0, _, _ => none
  | fu + 1, x109, u110 =>
    if ((gI u110 3 i0 3) ≤ x109) then (w112 u110)
    else ((mX3_settleWay u110 i0 (x109 * 7)).bind fun u135 =>
    bd (x109 + 1) fun x136 =>
    mX3_settle_L64 i0 w112 fu x136 u135)
def mX3_settle_L30 (i0 : Nat) (w108 : HS → Option HS) : Nat → Int32 → HS → Option HS
  | 0, _, _ => none
  | fu + 1, x105, u106 =>
    if (((gI u106 3 i0 0) * 300) ≤ x105) then (w108 u106)
    else ((ck (gR u106 (3 + i0)) x105).bind fun k138 =>
    bd (wI u106 42 i0 k138 (-1)) fun u139 =>
    (ck (gR u139 (10 + i0)) x105).bind fun k140 =>
    bd (wI u139 43 i0 k140 (-1)) fun u141 =>
    bd (x105 + 1) fun x142 =>
    mX3_settle_L30 i0 w108 fu x142 u141)
def mX3_settle (u0 : HS) (i0 : Nat) : Option HS :=
  (nw 2400 ((gI u0 3 i0 0) * 300)).bind fun k101 =>
  bd (wN u0 42 i0 3 k101) fun u102 =>
  (nw 2400 ((gI u102 3 i0 0) * 300)).bind fun k103 =>
  bd (wN u102 43 i0 10 k103) fun u104 =>
  jp (fun (u107 : HS) =>
  ((jp (fun (u111 : HS) =>
  ((jp (fun (u115 : HS) =>
  ((jp (fun (u119 : HS) =>
  ((some u119) : Option HS)) fun w120 => mX3_settle_L140 i0 w120 FU 0 u115) : Option HS)) fun w116 => mX3_settle_L88 i0 w116 FU 0 u111) : Option HS)) fun w112 => mX3_settle_L64 i0 w112 FU 0 u107) : Option HS)) fun w108 => mX3_settle_L30 i0 w108 FU 0 u104
def mX8_scene (u0 : HS) (x1 : Int32) : Option (Nat × Int32 × HS) :=
  ((jp (((some 0) : Option Int32)) fun j114 =>
  if (x1 < 0) then (j114)
  else (if ((gI u0 5 0 1) < x1) then (j114)
  else (some 1))) : Option Int32).bind fun x101 =>
  (mX8_require x101).bind fun t103 =>
  xq t103 (some (t103, 0, u0)) <|
  (mX5_open u0 x1).bind fun u105 =>
  if ((gI u105 8 0 2) = 6) then (some (0, (-1), u105))
  else ((ck 6 (gI u105 8 0 2)).bind fun k107 =>
  (mX3_read u105 k107).bind fun u109 =>
  if ((gI u109 5 0 5) = 0) then ((mX3_settle u109 k107).bind fun u112 =>
  bd (wI u112 8 0 2 ((gI u112 8 0 2) + 1)) fun u113 =>
  some (0, gI u112 8 0 2, u113))
  else (some (0, (gI u109 5 0 5) - 10, u109)))
def mX8_task (u0 : HS) (x1 : Int32) : Option (Nat × Int32 × HS) :=
  ((jp (((some 0) : Option Int32)) fun j112 =>
  if (x1 < 0) then (j112)
  else (if ((gI u0 5 0 1) < x1) then (j112)
  else (if (200 < x1) then (j112)
  else (some 1)))) : Option Int32).bind fun x101 =>
  (mX8_require x101).bind fun t103 =>
  xq t103 (some (t103, 0, u0)) <|
  (mX5_open u0 x1).bind fun u105 =>
  if ((gI u105 8 0 4) = 6) then (some (0, (-1), u105))
  else ((ck 6 (gI u105 8 0 4)).bind fun k107 =>
  (mX6_read u105 k107).bind fun u109 =>
  if ((gI u109 5 0 5) = 0) then (bd (wI u109 8 0 4 ((gI u109 8 0 4) + 1)) fun u111 =>
  some (0, gI u109 8 0 4, u111))
  else (some (0, (gI u109 5 0 5) - 10, u109)))
def mX8_law (u0 : HS) (x1 : Int32) : Option (Nat × Int32 × HS) :=
  ((jp (((some 0) : Option Int32)) fun j112 =>
  if (x1 < 0) then (j112)
  else (if ((gI u0 5 0 1) < x1) then (j112)
  else (some 1))) : Option Int32).bind fun x101 =>
  (mX8_require x101).bind fun t103 =>
  xq t103 (some (t103, 0, u0)) <|
  (mX5_open u0 x1).bind fun u105 =>
  if ((gI u105 8 0 6) = 4) then (some (0, (-1), u105))
  else ((ck 4 (gI u105 8 0 6)).bind fun k107 =>
  (mX2_read u105 k107).bind fun u109 =>
  if ((gI u109 5 0 5) = 0) then (bd (wI u109 8 0 6 ((gI u109 8 0 6) + 1)) fun u111 =>
  some (0, gI u109 8 0 6, u111))
  else (some (0, (gI u109 5 0 5) - 10, u109)))
def mX8_requireScene (u0 : HS) (x1 : Int32) : Option Nat :=
  jp (((some 2) : Option Nat)) fun j101 =>
  if (x1 < 0) then (j101)
  else (if (x1 < (gI u0 8 0 2)) then (some 0)
  else (j101))
def mX8_told (u0 : HS) (x1 : Int32) (x2 : Int32) : Option (Nat × Int32 × HS) :=
  (mX8_requireScene u0 x1).bind fun t101 =>
  xq t101 (some (t101, 0, u0)) <|
  ((jp (((some 0) : Option Int32)) fun j111 =>
  if (x2 < 0) then (j111)
  else (if (5 < x2) then (j111)
  else (some 1))) : Option Int32).bind fun x102 =>
  (mX8_require x102).bind fun t104 =>
  xq t104 (some (t104, 0, u0)) <|
  (ck 6 x1).bind fun k105 =>
  if (x2 = 0) then (some (0, gI u0 3 k105 0, u0))
  else if (x2 = 1) then (some (0, gI u0 3 k105 3, u0))
  else if (x2 = 2) then (some (0, gI u0 3 k105 5, u0))
  else if (x2 = 3) then (some (0, gI u0 3 k105 11, u0))
  else if (x2 = 4) then (some (0, gI u0 3 k105 9, u0))
  else (some (0, gI u0 3 k105 10, u0))
def mX8_thing (u0 : HS) (x1 : Int32) (x2 : Int32) (x3 : Int32) (x4 : Int32) : Option (Nat × Int32 × HS) :=
  (mX8_requireScene u0 x1).bind fun t101 =>
  xq t101 (some (t101, 0, u0)) <|
  (ck 6 x1).bind fun k102 =>
  ((jp (((some 0) : Option Int32)) fun j123 =>
  if (x2 < 0) then (j123)
  else (if ((gI u0 3 k102 0) ≤ x2) then (j123)
  else ((mX8_isTenth x3).bind fun x127 =>
  if (x127 = 0) then (j123)
  else (if (x4 < 0) then (j123)
  else (if (5 < x4) then (j123)
  else (some 1)))))) : Option Int32).bind fun x103 =>
  (mX8_require x103).bind fun t105 =>
  xq t105 (some (t105, 0, u0)) <|
  (mX3_placeAt u0 k102 x2 x3).bind fun x107 =>
  if (x4 = 0) then (if (x107 = (-1)) then (some (0, (-1), u0))
  else (some (0, x107 / 100, u0)))
  else if (x4 = 1) then (if (x107 = (-1)) then (some (0, (-1), u0))
  else (some (0, x107 - x107 / 100 * 100, u0)))
  else if (x4 = 2) then ((mX3_tintAt u0 k102 x2 x3).bind fun x114 =>
  some (0, x114, u0))
  else if (x4 = 3) then ((mX3_paceAt u0 k102 x2 x3).bind fun x117 =>
  some (0, x117, u0))
  else if (x4 = 4) then ((ck 8 x2).bind fun k119 =>
  some (0, gI u0 38 k102 k119, u0))
  else ((mX3_turned u0 k102 x2 x3).bind fun x121 =>
  if (x121 = 0) then (some (0, 0, u0))
  else (some (0, 1, u0)))
def mX8_requireTask (u0 : HS) (x1 : Int32) : Option Nat :=
  jp (((some 3) : Option Nat)) fun j101 =>
  if (x1 < 0) then (j101)
  else (if (x1 < (gI u0 8 0 4)) then (some 0)
  else (j101))
def mX8_kept (u0 : HS) (x1 : Int32) (x2 : Int32) : Option (Nat × Int32 × HS) :=
  (mX8_requireTask u0 x1).bind fun t101 =>
  xq t101 (some (t101, 0, u0)) <|
  ((jp (((some 0) : Option Int32)) fun j110 =>
  if (x2 < 0) then (j110)
  else (if (4 < x2) then (j110)
  else (some 1))) : Option Int32).bind fun x102 =>
  (mX8_require x102).bind fun t104 =>
  xq t104 (some (t104, 0, u0)) <|
  (ck 6 x1).bind fun k105 =>
  if (x2 = 0) then (some (0, gI u0 6 k105 0, u0))
  else if (x2 = 1) then (some (0, gI u0 6 k105 1, u0))
  else if (x2 = 2) then (some (0, gI u0 6 k105 2, u0))
  else if (x2 = 3) then (some (0, gI u0 6 k105 3, u0))
  else (some (0, gI u0 6 k105 4, u0))
def mX8_throwsOf (u0 : HS) (x1 : Int32) (x2 : Int32) : Option (Nat × Int32 × HS) :=
  (mX8_requireScene u0 x1).bind fun t101 =>
  xq t101 (some (t101, 0, u0)) <|
  (mX8_requireTask u0 x2).bind fun t102 =>
  xq t102 (some (t102, 0, u0)) <|
  (ck 6 x1).bind fun k103 =>
  (ck 6 x2).bind fun k104 =>
  (mX3_throwsFrom u0 k103 (gI u0 6 k104 2)).bind fun x106 =>
  some (0, x106, u0)
def mX8_looker (u0 : HS) (x1 : Int32) (x2 : Int32) (x3 : Int32) : Option (Nat × Int32 × HS) :=
  (mX8_requireScene u0 x1).bind fun t101 =>
  xq t101 (some (t101, 0, u0)) <|
  (mX8_requireTask u0 x2).bind fun t102 =>
  xq t102 (some (t102, 0, u0)) <|
  (mX0_addLooker u0 0 x1 x2 x3).bind fun z103 => bd z103.1 fun x104 => bd z103.2 fun u105 =>
  if (x104 = (-1)) then (some (0, x104, u105))
  else ((mX8_forgetStates u105 x104).bind fun u108 =>
  some (0, x104, u108))
def mX8_requireLooker (u0 : HS) (x1 : Int32) : Option Nat :=
  jp (((some 1) : Option Nat)) fun j101 =>
  if (x1 < 0) then (j101)
  else (if (x1 < (gI u0 0 0 0)) then (some 0)
  else (j101))
def mX8_eyes (u0 : HS) (x1 : Int32) (x2 : Int32) (x3 : Int32) (x4 : Int32) : Option (Nat × Int32 × HS) :=
  (mX8_requireLooker u0 x1).bind fun t101 =>
  xq t101 (some (t101, 0, u0)) <|
  (mX8_isTenth x2).bind fun x103 =>
  ((jp (((some 0) : Option Int32)) fun j112 =>
  if (x103 = 0) then (j112)
  else (if (x3 < 0) then (j112)
  else (if (40 ≤ x3) then (j112)
  else (if (x4 < 0) then (j112)
  else (if (30 ≤ x4) then (j112)
  else (some 1)))))) : Option Int32).bind fun x104 =>
  (mX8_require x104).bind fun t106 =>
  xq t106 (some (t106, 0, u0)) <|
  (mX8_forgetStates u0 x1).bind fun u108 =>
  (mX0_addEyes u108 0 x1 x2 ((x3 * 100) + x4)).bind fun z109 => bd z109.1 fun x110 => bd z109.2 fun u111 =>
  some (0, x110, u111)
def mX8_blink (u0 : HS) (x1 : Int32) (x2 : Int32) (x3 : Int32) : Option (Nat × Int32 × HS) :=
  (mX8_requireLooker u0 x1).bind fun t101 =>
  xq t101 (some (t101, 0, u0)) <|
  (mX8_isTenth x2).bind fun x103 =>
  ((jp (((some 0) : Option Int32)) fun j112 =>
  if (x103 = 0) then (j112)
  else ((mX8_isTenth x3).bind fun x115 =>
  if (x115 = 0) then (j112)
  else (if (x3 < x2) then (j112)
  else (some 1)))) : Option Int32).bind fun x104 =>
  (mX8_require x104).bind fun t106 =>
  xq t106 (some (t106, 0, u0)) <|
  (mX8_forgetStates u0 x1).bind fun u108 =>
  (mX0_addBlink u108 0 x1 x2 x3).bind fun z109 => bd z109.1 fun x110 => bd z109.2 fun u111 =>
  some (0, x110, u111)
def mX8_eye (u0 : HS) (x1 : Int32) (x2 : Int32) : Option (Nat × Int32 × HS) :=
  (mX8_requireLooker u0 x1).bind fun t101 =>
  xq t101 (some (t101, 0, u0)) <|
  (mX8_isTenth x2).bind fun x103 =>
  (mX8_require x103).bind fun t104 =>
  xq t104 (some (t104, 0, u0)) <|
  (mX8_lookAs u0 x1 x2).bind fun u106 =>
  (ck 300 x2).bind fun k107 =>
  some (0, gI u106 46 0 k107, u106)
def mX8_on (u0 : HS) (x1 : Int32) (x2 : Int32) : Option (Nat × Int32 × HS) :=
  (mX8_requireLooker u0 x1).bind fun t101 =>
  xq t101 (some (t101, 0, u0)) <|
  ((jp (((some 0) : Option Int32)) fun j111 =>
  if (x2 < 0) then (j111)
  else (if (40 < x2) then (j111)
  else (some 1))) : Option Int32).bind fun x102 =>
  (mX8_require x102).bind fun t104 =>
  xq t104 (some (t104, 0, u0)) <|
  (mX8_sceneFor u0 x1).bind fun k106 =>
  (mX8_lookAs u0 x1 (gI u0 3 k106 11)).bind fun u108 =>
  (mX7_tenthsWithin u108 x2).bind fun x110 =>
  some (0, x110, u108)
def mX8_name (u0 : HS) (x1 : Int32) (x2 : Int32) (x3 : Int32) (x4 : Int32) : Option (Nat × Int32 × HS) :=
  (mX8_requireLooker u0 x1).bind fun t101 =>
  xq t101 (some (t101, 0, u0)) <|
  ((jp (((some 0) : Option Int32)) fun j116 =>
  if (x2 < 0) then (j116)
  else ((mX8_sceneFor u0 x1).bind fun k119 =>
  if ((gI u0 3 k119 0) ≤ x2) then (j116)
  else ((mX8_isTenth x3).bind fun x122 =>
  if (x122 = 0) then (j116)
  else (some 1)))) : Option Int32).bind fun x102 =>
  (mX8_require x102).bind fun t104 =>
  xq t104 (some (t104, 0, u0)) <|
  ((jp (((some 0) : Option Int32)) fun j113 =>
  if (x4 < 0) then (j113)
  else (if (11 ≤ x4) then (j113)
  else (some 1))) : Option Int32).bind fun x105 =>
  (mX8_require x105).bind fun t107 =>
  xq t107 (some (t107, 0, u0)) <|
  (mX8_lookAs u0 x1 x3).bind fun u109 =>
  (mX7_regard u109 x2 x3).bind fun u111 =>
  (ck 11 x4).bind fun k112 =>
  some (0, gI u111 48 0 k112, u111)
def mX8_requireLaw (u0 : HS) (x1 : Int32) : Option Nat :=
  jp (((some 3) : Option Nat)) fun j101 =>
  if (x1 < 0) then (j101)
  else (if (x1 < (gI u0 8 0 6)) then (some 0)
  else (j101))
def mX8_gets (u0 : HS) (x1 : Int32) (x2 : Int32) (x3 : Int32) (x4 : Int32) (x5 : Int32) : Option (Nat × Int32 × HS) :=
  (mX8_requireLaw u0 x1).bind fun t101 =>
  xq t101 (some (t101, 0, u0)) <|
  (mX8_requireLooker u0 x2).bind fun t102 =>
  xq t102 (some (t102, 0, u0)) <|
  ((jp (((some 0) : Option Int32)) fun j124 =>
  if (x3 < 0) then (j124)
  else ((mX8_sceneFor u0 x2).bind fun k127 =>
  if ((gI u0 3 k127 0) ≤ x3) then (j124)
  else ((mX8_isTenth x4).bind fun x130 =>
  if (x130 = 0) then (j124)
  else (if (x5 < 0) then (j124)
  else (if (2 < x5) then (j124)
  else (some 1)))))) : Option Int32).bind fun x103 =>
  (mX8_require x103).bind fun t105 =>
  xq t105 (some (t105, 0, u0)) <|
  (mX8_lookAs u0 x2 x4).bind fun u107 =>
  if (x5 = 1) then ((ck 4 x1).bind fun k120 =>
  (mX4_sumTo u107 k120 x3 x4).bind fun z121 => bd z121.1 fun x122 => bd z121.2 fun u123 =>
  some (0, x122, u123))
  else ((mX7_regard u107 x3 x4).bind fun u110 =>
  if (x5 = 0) then ((ck 4 x1).bind fun k116 =>
  (mX4_getsNow u110 k116).bind fun z117 => bd z117.1 fun x118 => bd z117.2 fun u119 =>
  some (0, x118, u119))
  else ((ck 4 x1).bind fun k112 =>
  (mX4_lineNow u110 k112).bind fun z113 => bd z113.1 fun x114 => bd z113.2 fun u115 =>
  some (0, x114, u115)))
def mX8_seen (u0 : HS) (x1 : Int32) (x2 : Int32) (x3 : Int32) : Option (Nat × Int32 × HS) :=
  (mX8_requireLaw u0 x1).bind fun t101 =>
  xq t101 (some (t101, 0, u0)) <|
  (mX8_requireLooker u0 x2).bind fun t102 =>
  xq t102 (some (t102, 0, u0)) <|
  ((jp (((some 0) : Option Int32)) fun j114 =>
  if (x3 < 0) then (j114)
  else ((mX8_sceneFor u0 x2).bind fun k117 =>
  if ((gI u0 3 k117 0) ≤ x3) then (j114)
  else (some 1))) : Option Int32).bind fun x103 =>
  (mX8_require x103).bind fun t105 =>
  xq t105 (some (t105, 0, u0)) <|
  (mX8_sceneFor u0 x2).bind fun k107 =>
  (mX8_lookAs u0 x2 (gI u0 3 k107 11)).bind fun u109 =>
  (ck 4 x1).bind fun k110 =>
  (mX4_firstSeen u109 k110 x3).bind fun z111 => bd z111.1 fun x112 => bd z111.2 fun u113 =>
  some (0, x112, u113)
def mX8_says (u0 : HS) (x1 : Int32) (x2 : Int32) (x3 : Int32) : Option (Nat × Int32 × HS) :=
  (mX8_requireLaw u0 x1).bind fun t101 =>
  xq t101 (some (t101, 0, u0)) <|
  (mX8_requireLooker u0 x2).bind fun t102 =>
  xq t102 (some (t102, 0, u0)) <|
  (mX8_isAsking x3).bind fun x104 =>
  (mX8_require x104).bind fun t105 =>
  xq t105 (some (t105, 0, u0)) <|
  (mX8_stateOf u0 x1 x2).bind fun z106 => bd z106.1 fun x107 => bd z106.2 fun u108 =>
  (mX8_isYes x107 x3).bind fun x110 =>
  (zb x110).bind fun _ =>
  some (0, x110, u108)
def mX8_miss (u0 : HS) (x1 : Int32) (x2 : Int32) (x3 : Int32) : Option (Nat × Int32 × HS) :=
  (mX8_requireLaw u0 x1).bind fun t101 =>
  xq t101 (some (t101, 0, u0)) <|
  (mX8_requireLooker u0 x2).bind fun t102 =>
  xq t102 (some (t102, 0, u0)) <|
  ((jp (((some 0) : Option Int32)) fun j123 =>
  if (x3 < 1) then (j123)
  else (if (99 < x3) then (j123)
  else (some 1))) : Option Int32).bind fun x103 =>
  (mX8_require x103).bind fun t105 =>
  xq t105 (some (t105, 0, u0)) <|
  (mX8_stateOf u0 x1 x2).bind fun z106 => bd z106.1 fun x107 => bd z106.2 fun u108 =>
  (mX8_isYes x107 0).bind fun x110 =>
  if (x110 = 0) then (if ((x107 &&& 1) = 0) then ((mX8_sceneFor u108 x2).bind fun k114 =>
  (mX8_lookAs u108 x2 (gI u108 3 k114 11)).bind fun u116 =>
  (mX7_blindness u116 x3).bind fun x118 =>
  some (0, x118, u116))
  else (if ((x107 &&& 2) = 0) then (some (0, 4, u108))
  else (some (0, 3, u108))))
  else ((mX0_isKnowing u108 0 x2).bind fun x121 =>
  if (x121 = 0) then (some (0, (-1), u108))
  else (some (0, 7, u108)))
def mX8_drawn (u0 : HS) (x1 : Int32) (x2 : Int32) (x3 : Int32) (x4 : Int32) : Option (Nat × Int32 × HS) :=
  (mX8_requireLaw u0 x1).bind fun t101 =>
  xq t101 (some (t101, 0, u0)) <|
  (mX8_requireLooker u0 x2).bind fun t102 =>
  xq t102 (some (t102, 0, u0)) <|
  ((jp (((some 0) : Option Int32)) fun j117 =>
  if (x3 < 0) then (j117)
  else (if (50 < x3) then (j117)
  else (some 1))) : Option Int32).bind fun x103 =>
  (mX8_require x103).bind fun t105 =>
  xq t105 (some (t105, 0, u0)) <|
  (mX8_sceneFor u0 x2).bind fun k107 =>
  if ((gI u0 3 k107 9) = (-1)) then (some (0, (-1), u0))
  else ((mX8_lookAs u0 x2 (gI u0 3 k107 11)).bind fun u110 =>
  (mX4_drawBy u110 x3 x4).bind fun u112 =>
  (ck 4 x1).bind fun k113 =>
  (mX4_firstSeen u112 k113 (gI u112 3 k107 9)).bind fun z114 => bd z114.1 fun x115 => bd z114.2 fun u116 =>
  some (0, x115, u116))
def mX8_change (u0 : HS) (x1 : Int32) (x2 : Int32) : Option (Nat × Int32 × HS) :=
  (mX8_requireLaw u0 x1).bind fun t101 =>
  xq t101 (some (t101, 0, u0)) <|
  (mX8_requireLooker u0 x2).bind fun t102 =>
  xq t102 (some (t102, 0, u0)) <|
  (mX8_changeSeen u0 x1 x2).bind fun z103 => bd z103.1 fun x104 => bd z103.2 fun u105 =>
  some (0, x104, u105)
def mX8_yet_L9 (x1 : Int32) (w107 : Int32 → HS → Option (Nat × Int32 × HS)) : Nat → Int32 → Int32 → HS → Option (Nat × Int32 × HS)
  | 0, _, _, _ => none
  | fu + 1, x102, x103, u104 =>
    if ((gI u104 0 0 0) ≤ x103) then (w107 x102 u104)
    else ((mX8_stateOf u104 x1 x103).bind fun z109 => bd z109.1 fun x110 => bd z109.2 fun u111 =>
    jp (fun (x112 : Int32) (u113 : HS) =>
    ((bd (x103 + 1) fun x115 =>
    mX8_yet_L9 x1 w107 fu x112 x115 u113) : Option (Nat × Int32 × HS))) fun j114 =>
    if ((x110 &&& 1) = 0) then ((mX8_wasOnIt u111 x103).bind fun z117 => bd z117.1 fun x118 => bd z117.2 fun u119 =>
    if (x118 = 0) then (j114 x102 u119)
    else (bd (x102 ||| ((1 : Int32) <<< (x103 &&& 31))) fun x121 =>
    j114 x121 u119))
    else (j114 x102 u111))
def mX8_yet (u0 : HS) (x1 : Int32) : Option (Nat × Int32 × HS) :=
  (mX8_requireLaw u0 x1).bind fun t101 =>
  xq t101 (some (t101, 0, u0)) <|
  jp (fun (x105 : Int32) (u106 : HS) =>
  ((some (0, x105, u106)) : Option (Nat × Int32 × HS))) fun w107 => mX8_yet_L9 x1 w107 FU 0 0 u0
def mX8_least_L81 (x111 : Int32) (x3 : Int32) (x1 : Int32) (k107 : Nat) (w118 : HS → Option (Nat × Int32 × HS)) : Nat → Int32 → HS → Option (Nat × Int32 × HS)
  | 0, _, _ => none
  | fu + 1, x115, u116 =>
    if (x111 < x115) then (w118 u116)
    else ((mX7_bend u116 x3 x115).bind fun u121 =>
    (ck 4 x1).bind fun k122 =>
    (mX4_firstSeen u121 k122 (gI u121 3 k107 9)).bind fun z123 => bd z123.1 fun x124 => bd z123.2 fun u125 =>
    if (x124 = (-1)) then (bd (x115 + 1) fun x127 =>
    mX8_least_L81 x111 x3 x1 k107 w118 fu x127 u125)
    else (some (0, x115, u125)))
def mX8_least (u0 : HS) (x1 : Int32) (x2 : Int32) (x3 : Int32) : Option (Nat × Int32 × HS) :=
  (mX8_requireLaw u0 x1).bind fun t101 =>
  xq t101 (some (t101, 0, u0)) <|
  (mX8_requireLooker u0 x2).bind fun t102 =>
  xq t102 (some (t102, 0, u0)) <|
  ((jp (((some 0) : Option Int32)) fun j130 =>
  if (x3 < 0) then (j130)
  else (if (2 < x3) then (j130)
  else (some 1))) : Option Int32).bind fun x103 =>
  (mX8_require x103).bind fun t105 =>
  xq t105 (some (t105, 0, u0)) <|
  (mX8_sceneFor u0 x2).bind fun k107 =>
  if ((gI u0 3 k107 9) = (-1)) then (some (0, (-1), u0))
  else ((mX8_lookAs u0 x2 (gI u0 3 k107 11)).bind fun u110 =>
  ((if (x3 = 1) then (some 20)
  else (some 9)) : Option Int32).bind fun x111 =>
  ((if (x3 = 1) then (some 0)
  else (some 1)) : Option Int32).bind fun x113 =>
  jp (fun (u117 : HS) =>
  ((some (0, (-1), u117)) : Option (Nat × Int32 × HS))) fun w118 => mX8_least_L81 x111 x3 x1 k107 w118 FU x113 u110)
def mX8_answer (u0 : HS) (x1 : Int32) (x2 : Int32) (x3 : Int32) : Option (Nat × Int32 × HS) :=
  (mX8_requireLooker u0 x1).bind fun t101 =>
  xq t101 (some (t101, 0, u0)) <|
  (mX8_isAsking x2).bind fun x103 =>
  (mX8_require x103).bind fun t104 =>
  xq t104 (some (t104, 0, u0)) <|
  (mX0_reply u0 0 x1 x2).bind fun x106 =>
  ((if (x3 = 0) then (some 0)
  else (some 1)) : Option Int32).bind fun x107 =>
  (ck 42 ((x1 * 3) + x2)).bind fun k109 =>
  bd (wI u0 22 0 k109 x107) fun u110 =>
  some (0, x106, u110)
def mX8_counted (u0 : HS) (x1 : Int32) (x2 : Int32) : Option (Nat × Int32 × HS) :=
  (mX8_requireLooker u0 x1).bind fun t101 =>
  xq t101 (some (t101, 0, u0)) <|
  ((jp (((some 0) : Option Int32)) fun j109 =>
  if (x2 < 0) then (j109)
  else (if (999 < x2) then (j109)
  else (some 1))) : Option Int32).bind fun x102 =>
  (mX8_require x102).bind fun t104 =>
  xq t104 (some (t104, 0, u0)) <|
  (ck 14 x1).bind fun k105 =>
  bd (gI u0 23 0 k105) fun x106 =>
  (ck 14 x1).bind fun k107 =>
  bd (wI u0 23 0 k107 x2) fun u108 =>
  some (0, x106, u108)
def mX8_sure (u0 : HS) (x1 : Int32) (x2 : Int32) : Option (Nat × Int32 × HS) :=
  (mX8_requireLooker u0 x1).bind fun t101 =>
  xq t101 (some (t101, 0, u0)) <|
  ((jp (((some 0) : Option Int32)) fun j109 =>
  if (x2 < 0) then (j109)
  else (if (100 < x2) then (j109)
  else (some 1))) : Option Int32).bind fun x102 =>
  (mX8_require x102).bind fun t104 =>
  xq t104 (some (t104, 0, u0)) <|
  (ck 14 x1).bind fun k105 =>
  bd (gI u0 24 0 k105) fun x106 =>
  (ck 14 x1).bind fun k107 =>
  bd (wI u0 24 0 k107 x2) fun u108 =>
  some (0, x106, u108)
def mX8_share (u0 : HS) (x1 : Int32) (x2 : Int32) (x3 : Int32) (x4 : Int32) : Option (Nat × Int32 × HS) :=
  (mX8_requireScene u0 x1).bind fun t101 =>
  xq t101 (some (t101, 0, u0)) <|
  (mX8_requireTask u0 x2).bind fun t102 =>
  xq t102 (some (t102, 0, u0)) <|
  (mX8_isAsking x3).bind fun x104 =>
  ((jp (((some 0) : Option Int32)) fun j120 =>
  if (x104 = 0) then (j120)
  else (if (x4 < 0) then (j120)
  else (if (3 < x4) then (j120)
  else (some 1)))) : Option Int32).bind fun x105 =>
  (mX8_require x105).bind fun t107 =>
  xq t107 (some (t107, 0, u0)) <|
  (mX0_askedOf u0 0 x1 x2 x3).bind fun x109 =>
  (mX0_yesOf u0 0 x1 x2 x3).bind fun x111 =>
  (mX8_root x111).bind fun x113 =>
  bd (1 + x113) fun x114 =>
  if (x4 = 0) then (some (0, x109, u0))
  else if (x4 = 1) then (some (0, x111, u0))
  else if (x4 = 2) then (bd (if (0 < (x111 - x114)) then (x111 - x114) else 0) fun x118 =>
  some (0, x118, u0))
  else (bd (if ((x111 + x114) < x109) then (x111 + x114) else x109) fun x119 =>
  some (0, x119, u0))
def mX8_guessed (u0 : HS) (x1 : Int32) (x2 : Int32) (x3 : Int32) (x4 : Int32) : Option (Nat × Int32 × HS) :=
  (mX8_requireScene u0 x1).bind fun t101 =>
  xq t101 (some (t101, 0, u0)) <|
  (mX8_requireScene u0 x2).bind fun t102 =>
  xq t102 (some (t102, 0, u0)) <|
  (mX8_requireTask u0 x3).bind fun t103 =>
  xq t103 (some (t103, 0, u0)) <|
  (mX8_isAsking x4).bind fun x105 =>
  (mX8_require x105).bind fun t106 =>
  xq t106 (some (t106, 0, u0)) <|
  (mX0_askedOf u0 0 x1 x3 x4).bind fun x108 =>
  (mX0_yesOf u0 0 x1 x3 x4).bind fun x110 =>
  (mX0_askedOf u0 0 x2 x3 x4).bind fun x112 =>
  (mX0_yesOf u0 0 x2 x3 x4).bind fun x114 =>
  bd (x108 * (x112 - x114)) fun x115 =>
  if (x115 = 0) then (some (0, (-1), u0))
  else ((nz x115).bind fun _ =>
  bd (if (0 < ((1000 * ((x110 * x112) - (x114 * x108))) / x115)) then ((1000 * ((x110 * x112) - (x114 * x108))) / x115) else 0) fun x118 =>
  some (0, x118, u0))
def mX8_apart (u0 : HS) (x1 : Int32) (x2 : Int32) (x3 : Int32) (x4 : Int32) (x5 : Int32) (x6 : Int32) : Option (Nat × Int32 × HS) :=
  (mX8_requireScene u0 x1).bind fun t101 =>
  xq t101 (some (t101, 0, u0)) <|
  (mX8_requireScene u0 x3).bind fun t102 =>
  xq t102 (some (t102, 0, u0)) <|
  (mX8_requireTask u0 x2).bind fun t103 =>
  xq t103 (some (t103, 0, u0)) <|
  (mX8_requireTask u0 x4).bind fun t104 =>
  xq t104 (some (t104, 0, u0)) <|
  (mX8_isAsking x5).bind fun x106 =>
  ((jp (((some 0) : Option Int32)) fun j124 =>
  if (x106 = 0) then (j124)
  else (if (x6 < 0) then (j124)
  else (if (2 < x6) then (j124)
  else (some 1)))) : Option Int32).bind fun x107 =>
  (mX8_require x107).bind fun t109 =>
  xq t109 (some (t109, 0, u0)) <|
  (mX0_askedOf u0 0 x1 x2 x5).bind fun x111 =>
  (mX0_yesOf u0 0 x1 x2 x5).bind fun x113 =>
  (mX0_askedOf u0 0 x3 x4 x5).bind fun x115 =>
  (mX0_yesOf u0 0 x3 x4 x5).bind fun x117 =>
  if (x6 = 0) then (some (0, (x113 * x115) - (x117 * x111), u0))
  else if (x6 = 1) then ((mX8_waysOf x111 x113 x115 x117).bind fun x121 =>
  some (0, x121, u0))
  else ((mX8_choose (x111 + x115) x111).bind fun x123 =>
  some (0, x123, u0))
def mX8_gone_L33 (u0 : HS) (x1 : Int32) (x2 : Int32) (x3 : Int32) (w109 : Int32 → Option (Nat × Int32 × HS)) : Nat → Int32 → Int32 → Option (Nat × Int32 × HS)
  | 0, _, _ => none
  | fu + 1, x106, x107 =>
    if ((gI u0 0 0 0) ≤ x107) then (w109 x106)
    else ((mX0_repliedAll u0 0 x107 x1 x2).bind fun x112 =>
    ((if (x112 = 0) then (some x106)
    else (jp (((bd (x106 + 1) fun x118 =>
    some x118) : Option Int32)) fun j117 =>
    if (x3 = 2) then (j117)
    else (((if (x3 = 0) then (some 1)
    else (some 0)) : Option Int32).bind fun x120 =>
    (mX0_isLostTo u0 0 x107 x120).bind fun x123 =>
    if (x123 = 0) then (some x106)
    else (j117)))) : Option Int32).bind fun x113 =>
    bd (x107 + 1) fun x115 =>
    mX8_gone_L33 u0 x1 x2 x3 w109 fu x113 x115)
def mX8_gone (u0 : HS) (x1 : Int32) (x2 : Int32) (x3 : Int32) : Option (Nat × Int32 × HS) :=
  (mX8_requireScene u0 x1).bind fun t101 =>
  xq t101 (some (t101, 0, u0)) <|
  (mX8_requireTask u0 x2).bind fun t102 =>
  xq t102 (some (t102, 0, u0)) <|
  ((jp (((some 0) : Option Int32)) fun j126 =>
  if (x3 < 0) then (j126)
  else (if (2 < x3) then (j126)
  else (some 1))) : Option Int32).bind fun x103 =>
  (mX8_require x103).bind fun t105 =>
  xq t105 (some (t105, 0, u0)) <|
  jp (fun (x108 : Int32) =>
  ((some (0, x108, u0)) : Option (Nat × Int32 × HS))) fun w109 => mX8_gone_L33 u0 x1 x2 x3 w109 FU 0 0
def mX8_lost (u0 : HS) (x1 : Int32) : Option (Nat × Int32 × HS) :=
  (mX8_requireLooker u0 x1).bind fun t101 =>
  xq t101 (some (t101, 0, u0)) <|
  (mX8_lostBy u0 x1).bind fun x103 =>
  some (0, x103, u0)
def mX8_cost (u0 : HS) (x1 : Int32) (x2 : Int32) (x3 : Int32) : Option (Nat × Int32 × HS) :=
  (mX8_requireScene u0 x1).bind fun t101 =>
  xq t101 (some (t101, 0, u0)) <|
  (mX8_requireTask u0 x2).bind fun t102 =>
  xq t102 (some (t102, 0, u0)) <|
  (mX8_requireTask u0 x3).bind fun t103 =>
  xq t103 (some (t103, 0, u0)) <|
  (ck 6 x2).bind fun k104 =>
  if ((gI u0 6 k104 2) = (-1)) then (some (0, 0, u0))
  else ((ck 6 x3).bind fun k106 =>
  if ((gI u0 6 k106 2) = (-1)) then (some (0, 0, u0))
  else ((mX8_lostTogether u0 x1 x2).bind fun x109 =>
  (mX0_talliedOf u0 0 x1 x3).bind fun x111 =>
  (mX8_lostTogether u0 x1 x3).bind fun x113 =>
  (mX0_talliedOf u0 0 x1 x2).bind fun x115 =>
  some (0, (x109 * x111) - (x113 * x115), u0)))
def mX8_off_L36 (u0 : HS) (x1 : Int32) (x2 : Int32) (w111 : Int32 → Int32 → Option (Nat × Int32 × HS)) : Nat → Int32 → Int32 → Int32 → Option (Nat × Int32 × HS)
  | 0, _, _, _ => none
  | fu + 1, x106, x107, x108 =>
    if ((gI u0 0 0 0) ≤ x108) then (w111 x106 x107)
    else ((mX0_inGroup u0 0 x108 x1 x2 0).bind fun x115 =>
    jp (fun (x116 : Int32) (x117 : Int32) =>
    ((bd (x108 + 1) fun x119 =>
    mX8_off_L36 u0 x1 x2 w111 fu x116 x117 x119) : Option (Nat × Int32 × HS))) fun j118 =>
    if (x115 = 0) then (j118 x106 x107)
    else ((ck 14 x108).bind fun k121 =>
    if ((gI u0 24 0 k121) = (-1)) then (j118 x106 x107)
    else ((mX0_reply u0 0 x108 0).bind fun x124 =>
    (ck 14 x108).bind fun k125 =>
    bd (x106 + ((gI u0 24 0 k125) - (100 * x124))) fun x126 =>
    (ck 14 x108).bind fun k127 =>
    ((jp (((some 0) : Option Int32)) fun j131 =>
    if ((gI u0 24 0 k127) < 50) then (j131)
    else (if (x124 = 0) then (some 1)
    else (j131))) : Option Int32).bind fun x128 =>
    bd (x107 + x128) fun x130 =>
    j118 x126 x130)))
def mX8_off (u0 : HS) (x1 : Int32) (x2 : Int32) (x3 : Int32) : Option (Nat × Int32 × HS) :=
  (mX8_requireScene u0 x1).bind fun t101 =>
  xq t101 (some (t101, 0, u0)) <|
  (mX8_requireTask u0 x2).bind fun t102 =>
  xq t102 (some (t102, 0, u0)) <|
  ((jp (((some 1) : Option Int32)) fun j134 =>
  if (x3 = 0) then (j134)
  else (if (x3 = 1) then (j134)
  else (some 0))) : Option Int32).bind fun x103 =>
  (mX8_require x103).bind fun t105 =>
  xq t105 (some (t105, 0, u0)) <|
  jp (fun (x109 : Int32) (x110 : Int32) =>
  ((if (x3 = 0) then (some (0, x109, u0))
  else (some (0, x110, u0))) : Option (Nat × Int32 × HS))) fun w111 => mX8_off_L36 u0 x1 x2 w111 FU 0 0 0
def mX8_weigh (u0 : HS) (x1 : Int32) (x2 : Int32) : Option (Nat × Int32 × HS) :=
  (mX8_requireLaw u0 x1).bind fun t101 =>
  xq t101 (some (t101, 0, u0)) <|
  ((jp (((some 0) : Option Int32)) fun j109 =>
  if (x2 < 1) then (j109)
  else (if (9 < x2) then (j109)
  else (some 1))) : Option Int32).bind fun x102 =>
  (mX8_require x102).bind fun t104 =>
  xq t104 (some (t104, 0, u0)) <|
  (ck 4 x1).bind fun k105 =>
  bd (gI u0 31 0 k105) fun x106 =>
  (ck 4 x1).bind fun k107 =>
  bd (wI u0 31 0 k107 x2) fun u108 =>
  some (0, x106, u108)
def mX8_wrong (u0 : HS) (x1 : Int32) : Option (Nat × Int32 × HS) :=
  ((jp (((some 0) : Option Int32)) fun j106 =>
  if (x1 < 1) then (j106)
  else (if (8 < x1) then (j106)
  else (some 1))) : Option Int32).bind fun x101 =>
  (mX8_require x101).bind fun t103 =>
  xq t103 (some (t103, 0, u0)) <|
  bd (gI u0 0 0 16) fun x104 =>
  bd (wI u0 0 0 16 x1) fun u105 =>
  some (0, x104, u105)
def mX8_odds (u0 : HS) (x1 : Int32) : Option (Nat × Int64 × HS) :=
  (mX8_requireLaw u0 x1).bind fun t101 =>
  xq t101 (some (t101, 0, u0)) <|
  (mX8_oddsOf u0 x1).bind fun z102 => bd z102.1 fun y103 => bd z102.2 fun u104 =>
  some (0, y103, u104)
def mX8_fits (u0 : HS) (x1 : Int32) : Option (Nat × Int32 × HS) :=
  (mX8_isFit x1).bind fun x102 =>
  (mX8_require x102).bind fun t103 =>
  xq t103 (some (t103, 0, u0)) <|
  (mX8_fitting u0 x1).bind fun z104 => bd z104.1 fun x105 => bd z104.2 fun u106 =>
  some (0, x105, u106)
def mX8_knowing_L27 (x2 : Int32) (x1 : Int32) (w110 : Int32 → HS → Option (Nat × Int32 × HS)) : Nat → Int32 → Int32 → HS → Option (Nat × Int32 × HS)
  | 0, _, _, _ => none
  | fu + 1, x105, x106, u107 =>
    if ((gI u107 0 0 0) ≤ x106) then (w110 x105 u107)
    else ((mX0_isKnowing u107 0 x106).bind fun x113 =>
    jp (fun (x114 : Int32) (u115 : HS) =>
    ((bd (x106 + 1) fun x117 =>
    mX8_knowing_L27 x2 x1 w110 fu x114 x117 u115) : Option (Nat × Int32 × HS))) fun j116 =>
    if (x113 = 0) then (j116 x105 u107)
    else (jp (fun (u119 : HS) =>
    ((jp (fun (u121 : HS) =>
    ((bd (x105 + 1) fun x123 =>
    j116 x123 u121) : Option (Nat × Int32 × HS))) fun j122 =>
    if (x2 < 2) then (j122 u119)
    else ((mX8_changeSeen u119 x1 x106).bind fun z125 => bd z125.1 fun x126 => bd z125.2 fun u127 =>
    if (x126 = (-1)) then (j122 u127)
    else (j116 x105 u127))) : Option (Nat × Int32 × HS))) fun j120 =>
    if (x2 = 0) then (j120 u107)
    else ((mX8_stateOf u107 x1 x106).bind fun z130 => bd z130.1 fun x131 => bd z130.2 fun u132 =>
    (mX8_isYes x131 0).bind fun x134 =>
    if (x134 = 0) then (j116 x105 u132)
    else (j120 u132))))
def mX8_knowing (u0 : HS) (x1 : Int32) (x2 : Int32) : Option (Nat × Int32 × HS) :=
  (mX8_requireLaw u0 x1).bind fun t101 =>
  xq t101 (some (t101, 0, u0)) <|
  ((jp (((some 0) : Option Int32)) fun j136 =>
  if (x2 < 0) then (j136)
  else (if (2 < x2) then (j136)
  else (some 1))) : Option Int32).bind fun x102 =>
  (mX8_require x102).bind fun t104 =>
  xq t104 (some (t104, 0, u0)) <|
  jp (fun (x108 : Int32) (u109 : HS) =>
  ((some (0, x108, u109)) : Option (Nat × Int32 × HS))) fun w110 => mX8_knowing_L27 x2 x1 w110 FU 0 0 u0
def mX8_crossing_L47 (x109 : Int32) (x1 : Int32) (x2 : Int32) (x3 : Int32) (w116 : Int32 → HS → Option (Nat × Int32 × HS)) : Nat → Int32 → Int32 → HS → Option (Nat × Int32 × HS)
  | 0, _, _, _ => none
  | fu + 1, x111, x112, u113 =>
    if ((gI u113 8 0 6) ≤ x112) then (w116 x111 u113)
    else (jp (fun (x118 : Int32) (u119 : HS) =>
    ((bd (x112 + 1) fun x121 =>
    mX8_crossing_L47 x109 x1 x2 x3 w116 fu x118 x121 u119) : Option (Nat × Int32 × HS))) fun j120 =>
    if (((x109 >>> (x112 &&& 31)) &&& 1) = 0) then (j120 x111 u113)
    else ((mX8_stateOfNew u113 x112 x1 x2).bind fun z123 => bd z123.1 fun x124 => bd z123.2 fun u125 =>
    (mX8_isYes x124 x3).bind fun x127 =>
    ((if (x127 = 0) then (some 1)
    else (some 2)) : Option Int32).bind fun x128 =>
    bd (x111 ||| x128) fun x130 =>
    j120 x130 u125))
def mX8_crossing (u0 : HS) (x1 : Int32) (x2 : Int32) (x3 : Int32) (x4 : Int32) : Option (Nat × Int32 × HS) :=
  (mX8_requireScene u0 x1).bind fun t101 =>
  xq t101 (some (t101, 0, u0)) <|
  (mX8_requireTask u0 x2).bind fun t102 =>
  xq t102 (some (t102, 0, u0)) <|
  (mX8_isAsking x3).bind fun x104 =>
  ((jp (((some 0) : Option Int32)) fun j132 =>
  if (x104 = 0) then (j132)
  else ((mX8_isFit x4).bind fun x135 =>
  if (x135 = 0) then (j132)
  else (some 1))) : Option Int32).bind fun x105 =>
  (mX8_require x105).bind fun t107 =>
  xq t107 (some (t107, 0, u0)) <|
  (mX8_fitting u0 x4).bind fun z108 => bd z108.1 fun x109 => bd z108.2 fun u110 =>
  jp (fun (x114 : Int32) (u115 : HS) =>
  ((some (0, x114, u115)) : Option (Nat × Int32 × HS))) fun w116 => mX8_crossing_L47 x109 x1 x2 x3 w116 FU 0 0 u110
