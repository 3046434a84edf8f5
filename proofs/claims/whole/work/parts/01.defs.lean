def mX0_addLooker_L66 (i0 : Nat) (w112 : HS → Option (Int32 × HS)) : Nat → Int32 → HS → Option (Int32 × HS)
  | 0, _, _ => none
  | fu + 1, x109, u110 =>
    if (3 ≤ x109) then (w112 u110)
    else ((ck 42 (((gI u110 0 i0 0) * 3) + x109)).bind fun k119 =>
    bd (wI u110 22 i0 k119 (-1)) fun u120 =>
    bd (x109 + 1) fun x121 =>
    mX0_addLooker_L66 i0 w112 fu x121 u120)
def mX0_addLooker (u0 : HS) (i0 : Nat) (x1 : Int32) (x2 : Int32) (x3 : Int32) : Option (Int32 × HS) :=
  if ((gI u0 0 i0 0) = 14) then (some ((-1), u0))
  else ((ck 14 (gI u0 0 i0 0)).bind fun k102 =>
  bd (wI u0 20 i0 k102 x1) fun u103 =>
  (ck 14 (gI u103 0 i0 0)).bind fun k104 =>
  bd (wI u103 21 i0 k104 x2) fun u105 =>
  ((if (x3 = 0) then (some 0)
  else (some ((1 : Int32) <<< ((gI u105 0 i0 0) &&& 31)))) : Option Int32).bind fun x106 =>
  bd (wI u105 0 i0 3 (((gI u105 0 i0 3) &&& (((1 : Int32) <<< ((gI u105 0 i0 0) &&& 31)) ^^^ (-1))) ||| x106)) fun u108 =>
  jp (fun (u111 : HS) =>
  (((ck 14 (gI u111 0 i0 0)).bind fun k113 =>
  bd (wI u111 23 i0 k113 (-1)) fun u114 =>
  (ck 14 (gI u114 0 i0 0)).bind fun k115 =>
  bd (wI u114 24 i0 k115 (-1)) fun u116 =>
  bd (wI u116 0 i0 0 ((gI u116 0 i0 0) + 1)) fun u117 =>
  some (gI u116 0 i0 0, u117)) : Option (Int32 × HS))) fun w112 => mX0_addLooker_L66 i0 w112 FU 0 u108)
def mX0_addEyes (u0 : HS) (i0 : Nat) (x1 : Int32) (x2 : Int32) (x3 : Int32) : Option (Int32 × HS) :=
  if ((gI u0 0 i0 7) = 60) then (some ((-1), u0))
  else ((ck 60 (gI u0 0 i0 7)).bind fun k102 =>
  bd (wI u0 25 i0 k102 x1) fun u103 =>
  (ck 60 (gI u103 0 i0 7)).bind fun k104 =>
  bd (wI u103 26 i0 k104 x2) fun u105 =>
  (ck 60 (gI u105 0 i0 7)).bind fun k106 =>
  bd (wI u105 27 i0 k106 x3) fun u107 =>
  bd (wI u107 0 i0 7 ((gI u107 0 i0 7) + 1)) fun u108 =>
  some (gI u108 0 i0 7, u108))
def mX0_addBlink (u0 : HS) (i0 : Nat) (x1 : Int32) (x2 : Int32) (x3 : Int32) : Option (Int32 × HS) :=
  if ((gI u0 0 i0 11) = 40) then (some ((-1), u0))
  else ((ck 40 (gI u0 0 i0 11)).bind fun k102 =>
  bd (wI u0 28 i0 k102 x1) fun u103 =>
  (ck 40 (gI u103 0 i0 11)).bind fun k104 =>
  bd (wI u103 29 i0 k104 x2) fun u105 =>
  (ck 40 (gI u105 0 i0 11)).bind fun k106 =>
  bd (wI u105 30 i0 k106 x3) fun u107 =>
  bd (wI u107 0 i0 11 ((gI u107 0 i0 11) + 1)) fun u108 =>
  some (gI u108 0 i0 11, u108))
def mX0_isKnowing (u0 : HS) (i0 : Nat) (x1 : Int32) : Option Int32 :=
  if ((((gI u0 0 i0 3) >>> (x1 &&& 31)) &&& 1) = 0) then (some 0)
  else (some 1)
def mX0_reply (u0 : HS) (i0 : Nat) (x1 : Int32) (x2 : Int32) : Option Int32 :=
  (ck 42 ((x1 * 3) + x2)).bind fun k101 =>
  some (gI u0 22 i0 k101)
def mX0_inGroup (u0 : HS) (i0 : Nat) (x1 : Int32) (x2 : Int32) (x3 : Int32) (x4 : Int32) : Option Int32 :=
  (ck 14 x1).bind fun k101 =>
  if ((gI u0 20 i0 k101) = x2) then ((ck 14 x1).bind fun k103 =>
  if ((gI u0 21 i0 k103) = x3) then ((mX0_isKnowing u0 i0 x1).bind fun x106 =>
  if (x106 = 0) then ((mX0_reply u0 i0 x1 x4).bind fun x109 =>
  if (x109 = (-1)) then (some 0)
  else (some 1))
  else (some 0))
  else (some 0))
  else (some 0)
def mX0_repliedAll (u0 : HS) (i0 : Nat) (x1 : Int32) (x2 : Int32) (x3 : Int32) : Option Int32 :=
  (mX0_inGroup u0 i0 x1 x2 x3 0).bind fun x102 =>
  if (x102 = 0) then (some 0)
  else ((mX0_inGroup u0 i0 x1 x2 x3 1).bind fun x105 =>
  if (x105 = 0) then (some 0)
  else ((mX0_inGroup u0 i0 x1 x2 x3 2).bind fun x108 =>
  if (x108 = 0) then (some 0)
  else (some 1)))
def mX0_isLostTo (u0 : HS) (i0 : Nat) (x1 : Int32) (x2 : Int32) : Option Int32 :=
  (mX0_reply u0 i0 x1 0).bind fun x102 =>
  if (x102 = 1) then (some 0)
  else (if (x2 = 0) then ((mX0_reply u0 i0 x1 1).bind fun x106 =>
  if (x106 = 0) then ((mX0_reply u0 i0 x1 2).bind fun x109 =>
  if (x109 = 0) then (some 1)
  else (some 0))
  else (some 0))
  else ((mX0_reply u0 i0 x1 2).bind fun x112 =>
  if (x112 = 1) then (some 1)
  else (some 0)))
def mX0_askedOf_L6 (u0 : HS) (i0 : Nat) (x1 : Int32) (x2 : Int32) (x3 : Int32) (w104 : Int32 → Option Int32) : Nat → Int32 → Int32 → Option Int32
  | 0, _, _ => none
  | fu + 1, x101, x102 =>
    if ((gI u0 0 i0 0) ≤ x102) then (w104 x101)
    else ((mX0_inGroup u0 i0 x102 x1 x2 x3).bind fun x107 =>
    ((if (x107 = 0) then (some 0)
    else (some 1)) : Option Int32).bind fun x108 =>
    bd (x101 + x108) fun x110 =>
    bd (x102 + 1) fun x111 =>
    mX0_askedOf_L6 u0 i0 x1 x2 x3 w104 fu x110 x111)
def mX0_askedOf (u0 : HS) (i0 : Nat) (x1 : Int32) (x2 : Int32) (x3 : Int32) : Option Int32 :=
  jp (fun (x103 : Int32) =>
  ((some x103) : Option Int32)) fun w104 => mX0_askedOf_L6 u0 i0 x1 x2 x3 w104 FU 0 0
def mX0_yesOf_L6 (u0 : HS) (i0 : Nat) (x1 : Int32) (x2 : Int32) (x3 : Int32) (w104 : Int32 → Option Int32) : Nat → Int32 → Int32 → Option Int32
  | 0, _, _ => none
  | fu + 1, x101, x102 =>
    if ((gI u0 0 i0 0) ≤ x102) then (w104 x101)
    else ((mX0_inGroup u0 i0 x102 x1 x2 x3).bind fun x107 =>
    ((if (x107 = 0) then (some 0)
    else ((mX0_reply u0 i0 x102 x3).bind fun x114 =>
    some x114)) : Option Int32).bind fun x108 =>
    bd (x101 + x108) fun x110 =>
    bd (x102 + 1) fun x111 =>
    mX0_yesOf_L6 u0 i0 x1 x2 x3 w104 fu x110 x111)
def mX0_yesOf (u0 : HS) (i0 : Nat) (x1 : Int32) (x2 : Int32) (x3 : Int32) : Option Int32 :=
  jp (fun (x103 : Int32) =>
  ((some x103) : Option Int32)) fun w104 => mX0_yesOf_L6 u0 i0 x1 x2 x3 w104 FU 0 0
def mX0_hasTallied (u0 : HS) (i0 : Nat) (x1 : Int32) (x2 : Int32) (x3 : Int32) : Option Int32 :=
  (ck 14 x1).bind fun k101 =>
  if ((gI u0 20 i0 k101) = x2) then ((ck 14 x1).bind fun k103 =>
  if ((gI u0 21 i0 k103) = x3) then ((ck 14 x1).bind fun k105 =>
  if ((gI u0 23 i0 k105) = (-1)) then (some 0)
  else (some 1))
  else (some 0))
  else (some 0)
def mX0_talliedOf_L5 (u0 : HS) (i0 : Nat) (x1 : Int32) (x2 : Int32) (w104 : Int32 → Option Int32) : Nat → Int32 → Int32 → Option Int32
  | 0, _, _ => none
  | fu + 1, x101, x102 =>
    if ((gI u0 0 i0 0) ≤ x102) then (w104 x101)
    else ((mX0_hasTallied u0 i0 x102 x1 x2).bind fun x107 =>
    ((if (x107 = 0) then (some 0)
    else (some 1)) : Option Int32).bind fun x108 =>
    bd (x101 + x108) fun x110 =>
    bd (x102 + 1) fun x111 =>
    mX0_talliedOf_L5 u0 i0 x1 x2 w104 fu x110 x111)
def mX0_talliedOf (u0 : HS) (i0 : Nat) (x1 : Int32) (x2 : Int32) : Option Int32 :=
  jp (fun (x103 : Int32) =>
  ((some x103) : Option Int32)) fun w104 => mX0_talliedOf_L5 u0 i0 x1 x2 w104 FU 0 0
def mX0_copyFrom (u0 : HS) (i0 : Nat) (i1 : Nat) : Option HS :=
  bd (wI u0 0 i0 0 (gI u0 0 i1 0)) fun u101 =>
  bd (cpA u101 20 i1 i0) fun u102 =>
  bd (cpA u102 21 i1 i0) fun u103 =>
  bd (wI u103 0 i0 3 (gI u103 0 i1 3)) fun u104 =>
  bd (cpA u104 22 i1 i0) fun u105 =>
  bd (cpA u105 23 i1 i0) fun u106 =>
  bd (cpA u106 24 i1 i0) fun u107 =>
  bd (wI u107 0 i0 7 (gI u107 0 i1 7)) fun u108 =>
  bd (cpA u108 25 i1 i0) fun u109 =>
  bd (cpA u109 26 i1 i0) fun u110 =>
  bd (cpA u110 27 i1 i0) fun u111 =>
  bd (wI u111 0 i0 11 (gI u111 0 i1 11)) fun u112 =>
  bd (cpA u112 28 i1 i0) fun u113 =>
  bd (cpA u113 29 i1 i0) fun u114 =>
  bd (cpA u114 30 i1 i0) fun u115 =>
  bd (cpA u115 31 i1 i0) fun u116 =>
  bd (wI u116 0 i0 16 (gI u116 0 i1 16)) fun u117 =>
  some u117
def mX1_emit (u0 : HS) (i0 : Nat) (x1 : Int32) : Option HS :=
  if ((Nat.toInt32 400) ≤ (gI u0 1 i0 1)) then (some u0)
  else ((ck 400 (gI u0 1 i0 1)).bind fun k102 =>
  bd (wI u0 32 i0 k102 x1) fun u103 =>
  bd (wI u103 1 i0 1 ((gI u103 1 i0 1) + 1)) fun u104 =>
  some u104)
def mX5_blame (u0 : HS) (x1 : Int32) (x2 : Int32) : Option HS :=
  if ((gI u0 5 0 5) = 0) then (bd (wI u0 5 0 5 x1) fun u102 =>
  bd (wI u102 5 0 6 x2) fun u103 =>
  some u103)
  else (some u0)
def mX2_isTooDeep (u0 : HS) (x1 : Int32) : Option (Int32 × HS) :=
  if (x1 < 6) then (some (0, u0))
  else ((mX5_blame u0 3 (gI u0 5 0 4)).bind fun u103 =>
  some (1, u103))
def mX5_skipBlanks_L0  (w103 : HS → Option HS) : Nat → HS → Option HS
  | 0, _ => none
  | fu + 1, u101 =>
    if ((gI u101 5 0 2) ≤ (gI u101 5 0 3)) then (w103 u101)
    else ((ck 400 (gI u101 5 0 3)).bind fun k105 =>
    if ((gI u101 45 0 k105) = 32) then (bd (wI u101 5 0 3 ((gI u101 5 0 3) + 1)) fun u107 =>
    mX5_skipBlanks_L0  w103 fu u107)
    else (w103 u101))
def mX5_skipBlanks (u0 : HS) : Option HS :=
  jp (fun (u102 : HS) =>
  ((some u102) : Option HS)) fun w103 => mX5_skipBlanks_L0  w103 FU u0
def mX5_isAt (u0 : HS) (x1 : Int32) (x2 : Int32) (x3 : Int32) : Option Int32 :=
  if ((gI u0 5 0 2) ≤ x1) then (some 0)
  else ((ck 400 x1).bind fun k102 =>
  if ((gI u0 45 0 k102) < x2) then (some 0)
  else ((ck 400 x1).bind fun k104 =>
  if (x3 < (gI u0 45 0 k104)) then (some 0)
  else (some 1)))
def mX5_wordIn_L8 (i1 : Nat) (x2 : Int32) (u0 : HS) (w104 : Option Int32) : Nat → Int32 → Int32 → Int32 → Option Int32
  | 0, _, _, _ => none
  | fu + 1, x101, x102, x103 =>
    if ((slen i1) ≤ x103) then (w104)
    else ((sch i1 x103).bind fun x106 =>
    jp (fun (x107 : Int32) (x108 : Int32) =>
    ((bd (x103 + 1) fun x110 =>
    mX5_wordIn_L8 i1 x2 u0 w104 fu x107 x108 x110) : Option Int32)) fun j109 =>
    if (x106 = 32) then (if (x102 = x2) then (some x101)
    else (bd (x101 + 1) fun x113 =>
    j109 x113 0))
    else (((jp (((some (-1)) : Option Int32)) fun j116 =>
    if (x102 < 0) then (j116)
    else (if (x2 ≤ x102) then (j116)
    else ((ck 400 ((gI u0 5 0 3) + x102)).bind fun k119 =>
    if ((gI u0 45 0 k119) = x106) then (some (x102 + 1))
    else (j116)))) : Option Int32).bind fun x114 =>
    j109 x101 x114))
def mX5_wordIn (u0 : HS) (i1 : Nat) (x2 : Int32) : Option Int32 :=
  jp (((some (-1)) : Option Int32)) fun w104 => mX5_wordIn_L8 i1 x2 u0 w104 FU 0 0 0
def mX5_takeWord_L18 (u103 : HS) (w107 : Int32 → Option (Int32 × HS)) : Nat → Int32 → Option (Int32 × HS)
  | 0, _ => none
  | fu + 1, x105 =>
    if ((gI u103 5 0 2) ≤ x105) then (w107 x105)
    else ((mX5_isAt u103 x105 97 122).bind fun x115 =>
    if (x115 = 0) then (w107 x105)
    else (bd (x105 + 1) fun x117 =>
    mX5_takeWord_L18 u103 w107 fu x117))
def mX5_takeWord (u0 : HS) (i1 : Nat) : Option (Int32 × HS) :=
  if ((gI u0 5 0 5) = 0) then ((mX5_skipBlanks u0).bind fun u103 =>
  bd (gI u103 5 0 3) fun x104 =>
  jp (fun (x106 : Int32) =>
  (((mX5_wordIn u103 i1 (x106 - (gI u103 5 0 3))).bind fun x109 =>
  if (x109 = (-1)) then (some (x109, u103))
  else (bd (wI u103 5 0 4 (gI u103 5 0 3)) fun u111 =>
  bd (wI u111 5 0 3 x106) fun u112 =>
  some (x109, u112))) : Option (Int32 × HS))) fun w107 => mX5_takeWord_L18 u103 w107 FU x104)
  else (some ((-1), u0))
def mX5_clauseWord (u0 : HS) (i1 : Nat) (x2 : Int32) (x3 : Int32) : Option (Int32 × HS) :=
  (mX5_takeWord u0 i1).bind fun z101 => bd z101.1 fun x102 => bd z101.2 fun u103 =>
  if ((gI u103 5 0 5) = 0) then (jp (((((if (x102 = (-1)) then ((mX5_blame u103 1 (gI u103 5 0 3)).bind fun u114 =>
  some u114)
  else (if (x2 < x3) then (some u103)
  else ((mX5_blame u103 3 (gI u103 5 0 4)).bind fun u112 =>
  some u112))) : Option HS).bind fun u106 =>
  if ((gI u106 5 0 5) = 0) then (some (x102, u106))
  else (some ((-1), u106))) : Option (Int32 × HS))) fun j105 =>
  if (x102 = (-1)) then (if ((gI u103 5 0 3) = (gI u103 5 0 2)) then (some ((-1), u103))
  else (j105))
  else (j105))
  else (some ((-1), u103))
def mX5_isNumberNext (u0 : HS) : Option (Int32 × HS) :=
  (mX5_skipBlanks u0).bind fun u102 =>
  if ((gI u102 5 0 5) = 0) then ((mX5_isAt u102 (gI u102 5 0 3) 48 57).bind fun x105 =>
  if (x105 = 0) then (some (0, u102))
  else (some (1, u102)))
  else (some (0, u102))
def mX5_demandNumber_L28  (w110 : Int32 → HS → Option (Int32 × HS)) : Nat → Int32 → HS → Option (Int32 × HS)
  | 0, _, _ => none
  | fu + 1, x106, u107 =>
    if ((gI u107 5 0 2) ≤ (gI u107 5 0 3)) then (w110 x106 u107)
    else ((mX5_isAt u107 (gI u107 5 0 3) 48 57).bind fun x118 =>
    if (x118 = 0) then (w110 x106 u107)
    else ((ck 400 (gI u107 5 0 3)).bind fun k120 =>
    bd (if ((((x106 * 10) + (gI u107 45 0 k120)) - 48) < 1000000) then (((x106 * 10) + (gI u107 45 0 k120)) - 48) else 1000000) fun x121 =>
    bd (wI u107 5 0 3 ((gI u107 5 0 3) + 1)) fun u122 =>
    mX5_demandNumber_L28  w110 fu x121 u122))
def mX5_demandNumber (u0 : HS) (x1 : Int32) (x2 : Int32) : Option (Int32 × HS) :=
  (mX5_isNumberNext u0).bind fun z101 => bd z101.1 fun x102 => bd z101.2 fun u103 =>
  if (x102 = 0) then ((mX5_blame u103 1 (gI u103 5 0 3)).bind fun u124 =>
  some (x1, u124))
  else (bd (wI u103 5 0 4 (gI u103 5 0 3)) fun u105 =>
  jp (fun (x108 : Int32) (u109 : HS) =>
  ((jp ((((mX5_blame u109 2 (gI u109 5 0 4)).bind fun u113 =>
  some (x1, u113)) : Option (Int32 × HS))) fun j111 =>
  if (x108 < x1) then (j111)
  else (if (x108 ≤ x2) then (some (x108, u109))
  else (j111))) : Option (Int32 × HS))) fun w110 => mX5_demandNumber_L28  w110 FU 0 u105)
def mX3_readThing (u0 : HS) (i0 : Nat) : Option HS :=
  if ((gI u0 3 i0 0) = 8) then ((mX5_blame u0 3 (gI u0 5 0 4)).bind fun u114 =>
  some u114)
  else ((mX5_demandNumber u0 0 7).bind fun z102 => bd z102.1 fun x103 => bd z102.2 fun u104 =>
  (ck 8 (gI u0 3 i0 0)).bind fun k105 =>
  bd (wI u104 37 i0 k105 x103) fun u106 =>
  (mX5_demandNumber u106 1 9).bind fun z107 => bd z107.1 fun x108 => bd z107.2 fun u109 =>
  (ck 8 (gI u106 3 i0 0)).bind fun k110 =>
  bd (wI u109 38 i0 k110 x108) fun u111 =>
  bd (wI u111 3 i0 0 ((gI u111 3 i0 0) + 1)) fun u112 =>
  some u112)
def mX3_readWay (u0 : HS) (i0 : Nat) : Option HS :=
  bd ((gI u0 3 i0 3) * 7) fun x101 =>
  (mX5_demandNumber u0 0 ((gI u0 3 i0 0) - 1)).bind fun z102 => bd z102.1 fun x103 => bd z102.2 fun u104 =>
  (ck 168 x101).bind fun k105 =>
  bd (wI u104 39 i0 k105 x103) fun u106 =>
  (mX5_demandNumber u106 0 299).bind fun z107 => bd z107.1 fun x108 => bd z107.2 fun u109 =>
  (ck 168 (x101 + 1)).bind fun k110 =>
  bd (wI u109 39 i0 k110 x108) fun u111 =>
  (mX5_demandNumber u111 0 39).bind fun z112 => bd z112.1 fun x113 => bd z112.2 fun u114 =>
  (ck 168 (x101 + 2)).bind fun k115 =>
  bd (wI u114 39 i0 k115 x113) fun u116 =>
  (mX5_demandNumber u116 0 29).bind fun z117 => bd z117.1 fun x118 => bd z117.2 fun u119 =>
  (ck 168 (x101 + 3)).bind fun k120 =>
  bd (wI u119 39 i0 k120 x118) fun u121 =>
  (ck 168 (x101 + 1)).bind fun k122 =>
  (mX5_demandNumber u121 (gI u121 39 i0 k122) 299).bind fun z123 => bd z123.1 fun x124 => bd z123.2 fun u125 =>
  (ck 168 (x101 + 4)).bind fun k126 =>
  bd (wI u125 39 i0 k126 x124) fun u127 =>
  (mX5_demandNumber u127 0 39).bind fun z128 => bd z128.1 fun x129 => bd z128.2 fun u130 =>
  (ck 168 (x101 + 5)).bind fun k131 =>
  bd (wI u130 39 i0 k131 x129) fun u132 =>
  (mX5_demandNumber u132 0 29).bind fun z133 => bd z133.1 fun x134 => bd z133.2 fun u135 =>
  (ck 168 (x101 + 6)).bind fun k136 =>
  bd (wI u135 39 i0 k136 x134) fun u137 =>
  (ck 168 (x101 + 4)).bind fun k138 =>
  bd (if ((gI u137 3 i0 11) < (gI u137 39 i0 k138)) then (gI u137 39 i0 k138) else (gI u137 3 i0 11)) fun x139 =>
  bd (wI u137 3 i0 11 x139) fun u140 =>
  bd (wI u140 3 i0 3 ((gI u140 3 i0 3) + 1)) fun u141 =>
  some u141
def mX3_readThrow (u0 : HS) (i0 : Nat) : Option HS :=
  bd ((gI u0 3 i0 5) * 3) fun x101 =>
  (mX5_demandNumber u0 0 ((gI u0 3 i0 0) - 1)).bind fun z102 => bd z102.1 fun x103 => bd z102.2 fun u104 =>
  (ck 72 x101).bind fun k105 =>
  bd (wI u104 40 i0 k105 x103) fun u106 =>
  (mX5_demandNumber u106 0 ((gI u106 3 i0 0) - 1)).bind fun z107 => bd z107.1 fun x108 => bd z107.2 fun u109 =>
  (ck 72 (x101 + 1)).bind fun k110 =>
  bd (wI u109 40 i0 k110 x108) fun u111 =>
  (ck 72 (x101 + 1)).bind fun k112 =>
  (ck 72 x101).bind fun k113 =>
  ((if ((gI u111 40 i0 k112) = (gI u111 40 i0 k113)) then ((mX5_blame u111 2 (gI u111 5 0 4)).bind fun u124 =>
  some u124)
  else (some u111)) : Option HS).bind fun u114 =>
  (mX5_demandNumber u114 0 299).bind fun z116 => bd z116.1 fun x117 => bd z116.2 fun u118 =>
  (ck 72 (x101 + 2)).bind fun k119 =>
  bd (wI u118 40 i0 k119 x117) fun u120 =>
  bd (wI u120 3 i0 5 ((gI u120 3 i0 5) + 1)) fun u121 =>
  some u121
def mX3_readTurn (u0 : HS) (i0 : Nat) : Option HS :=
  bd ((gI u0 3 i0 7) * 3) fun x101 =>
  (mX5_demandNumber u0 0 ((gI u0 3 i0 0) - 1)).bind fun z102 => bd z102.1 fun x103 => bd z102.2 fun u104 =>
  (ck 72 x101).bind fun k105 =>
  bd (wI u104 41 i0 k105 x103) fun u106 =>
  (mX5_demandNumber u106 0 299).bind fun z107 => bd z107.1 fun x108 => bd z107.2 fun u109 =>
  (ck 72 (x101 + 1)).bind fun k110 =>
  bd (wI u109 41 i0 k110 x108) fun u111 =>
  (mX5_demandNumber u111 0 7).bind fun z112 => bd z112.1 fun x113 => bd z112.2 fun u114 =>
  (ck 72 (x101 + 2)).bind fun k115 =>
  bd (wI u114 41 i0 k115 x113) fun u116 =>
  ((if ((gI u116 3 i0 10) = (-1)) then ((ck 72 x101).bind fun k121 =>
  bd (wI u116 3 i0 10 (gI u116 41 i0 k121)) fun u122 =>
  some u122)
  else (some u116)) : Option HS).bind fun u117 =>
  bd (wI u117 3 i0 7 ((gI u117 3 i0 7) + 1)) fun u119 =>
  some u119
def mX3_readClause (u0 : HS) (i0 : Nat) (x1 : Int32) : Option HS :=
  if (x1 = 0) then ((mX3_readThing u0 i0).bind fun u103 =>
  some u103)
  else if (x1 = 1) then ((mX3_readWay u0 i0).bind fun u106 =>
  some u106)
  else if (x1 = 2) then ((mX3_readThrow u0 i0).bind fun u109 =>
  some u109)
  else if (x1 = 3) then ((mX5_demandNumber u0 0 ((gI u0 3 i0 0) - 1)).bind fun z111 => bd z111.1 fun x112 => bd z111.2 fun u113 =>
  bd (wI u113 3 i0 9 x112) fun u114 =>
  some u114)
  else ((mX3_readTurn u0 i0).bind fun u116 =>
  some u116)
def mX5_takeSign_L15 (i1 : Nat) (u103 : HS) (w105 : Option (Int32 × HS)) : Nat → Int32 → Option (Int32 × HS)
  | 0, _ => none
  | fu + 1, x104 =>
    if ((slen i1) ≤ x104) then (w105)
    else (if ((gI u103 5 0 2) ≤ (gI u103 5 0 3)) then (w105)
    else ((ck 400 (gI u103 5 0 3)).bind fun k108 =>
    (sch i1 x104).bind fun x109 =>
    if ((gI u103 45 0 k108) = x109) then (bd (wI u103 5 0 4 (gI u103 5 0 3)) fun u112 =>
    bd (wI u112 5 0 3 ((gI u112 5 0 3) + 1)) fun u113 =>
    some (x104, u113))
    else (bd (x104 + 1) fun x111 =>
    mX5_takeSign_L15 i1 u103 w105 fu x111)))
def mX5_takeSign (u0 : HS) (i1 : Nat) : Option (Int32 × HS) :=
  if ((gI u0 5 0 5) = 0) then ((mX5_skipBlanks u0).bind fun u103 =>
  jp (((some ((-1), u103)) : Option (Int32 × HS))) fun w105 => mX5_takeSign_L15 i1 u103 w105 FU 0)
  else (some ((-1), u0))
def mX5_demandSign (u0 : HS) (i1 : Nat) : Option (Int32 × HS) :=
  (mX5_takeSign u0 i1).bind fun z101 => bd z101.1 fun x102 => bd z101.2 fun u103 =>
  if (x102 = (-1)) then ((mX5_blame u103 1 (gI u103 5 0 3)).bind fun u106 =>
  some (x102, u106))
  else (some (x102, u103))
def mX3_read_L37 (i0 : Nat) (w111 : HS → Option HS) : Nat → Int32 → HS → Option HS
  | 0, _, _ => none
  | fu + 1, x108, u109 =>
    if (24 < x108) then (w111 u109)
    else ((mX5_clauseWord u109 16 x108 24).bind fun z113 => bd z113.1 fun x114 => bd z113.2 fun u115 =>
    if (x114 = (-1)) then (some u115)
    else ((mX3_readClause u115 i0 x114).bind fun u118 =>
    (mX5_demandSign u118 0).bind fun z119 => bd z119.1 fun x120 => bd z119.2 fun u121 =>
    bd (x108 + 1) fun x122 =>
    mX3_read_L37 i0 w111 fu x122 u121))
def mX3_read (u0 : HS) (i0 : Nat) : Option HS :=
  bd (wI u0 3 i0 0 0) fun u101 =>
  bd (wI u101 3 i0 3 0) fun u102 =>
  bd (wI u102 3 i0 5 0) fun u103 =>
  bd (wI u103 3 i0 7 0) fun u104 =>
  bd (wI u104 3 i0 9 (-1)) fun u105 =>
  bd (wI u105 3 i0 10 (-1)) fun u106 =>
  bd (wI u106 3 i0 11 0) fun u107 =>
  jp (fun (u110 : HS) =>
  ((some u110) : Option HS)) fun w111 => mX3_read_L37 i0 w111 FU 0 u107
def mX3_onTheWay (x0 : Int32) (x1 : Int32) (x2 : Int32) : Option Int32 :=
  if (x2 = 0) then (some 0)
  else ((nz x2).bind fun _ =>
  some ((x0 * x1) / x2))
def mX3_settleWay_L23 (x104 : Int32) (x1 : Int32) (i0 : Nat) (x102 : Int32) (w108 : HS → Option HS) : Nat → Int32 → HS → Option HS
  | 0, _, _ => none
  | fu + 1, x105, u106 =>
    if (x104 < x105) then (w108 u106)
    else ((ck 168 (x1 + 2)).bind fun k110 =>
    (ck 168 (x1 + 5)).bind fun k111 =>
    (ck 168 (x1 + 2)).bind fun k112 =>
    (mX3_onTheWay ((gI u106 39 i0 k111) - (gI u106 39 i0 k112)) x105 x104).bind fun x114 =>
    bd ((gI u106 39 i0 k110) + x114) fun x115 =>
    (ck 168 (x1 + 3)).bind fun k116 =>
    (ck 168 (x1 + 6)).bind fun k117 =>
    (ck 168 (x1 + 3)).bind fun k118 =>
    (mX3_onTheWay ((gI u106 39 i0 k117) - (gI u106 39 i0 k118)) x105 x104).bind fun x120 =>
    bd ((gI u106 39 i0 k116) + x120) fun x121 =>
    (ck 168 x1).bind fun k122 =>
    (ck (gR u106 (3 + i0)) ((((gI u106 39 i0 k122) * 300) + x102) + x105)).bind fun k123 =>
    bd (wI u106 42 i0 k123 ((x115 * 100) + x121)) fun u124 =>
    bd (x105 + 1) fun x125 =>
    mX3_settleWay_L23 x104 x1 i0 x102 w108 fu x125 u124)
def mX3_settleWay (u0 : HS) (i0 : Nat) (x1 : Int32) : Option HS :=
  (ck 168 (x1 + 1)).bind fun k101 =>
  bd (gI u0 39 i0 k101) fun x102 =>
  (ck 168 (x1 + 4)).bind fun k103 =>
  bd ((gI u0 39 i0 k103) - x102) fun x104 =>
  jp (fun (u107 : HS) =>
  ((some u107) : Option HS)) fun w108 => mX3_settleWay_L23 x104 x1 i0 x102 w108 FU 0 u0
def mX3_settleTints_L13 (x1 : Int32) (i0 : Nat) (w108 : HS → Option HS) : Nat → Int32 → Int32 → HS → Option HS
  | 0, _, _, _ => none
  | fu + 1, x104, x105, u106 =>
    if (((x1 + 1) * 300) ≤ x105) then (w108 u106)
    else ((ck (gR u106 (10 + i0)) x105).bind fun k110 =>
    ((if ((gI u106 43 i0 k110) = (-1)) then ((ck (gR u106 (10 + i0)) x105).bind fun k117 =>
    bd (wI u106 43 i0 k117 x104) fun u118 =>
    some u118)
    else (some u106)) : Option HS).bind fun u111 =>
    (ck (gR u111 (10 + i0)) x105).bind fun k113 =>
    bd (gI u111 43 i0 k113) fun x114 =>
    bd (x105 + 1) fun x115 =>
    mX3_settleTints_L13 x1 i0 w108 fu x114 x115 u111)
def mX3_settleTints (u0 : HS) (i0 : Nat) (x1 : Int32) : Option HS :=
  (ck 8 x1).bind fun k101 =>
  bd (gI u0 37 i0 k101) fun x102 =>
  bd (x1 * 300) fun x103 =>
  jp (fun (u107 : HS) =>
  ((some u107) : Option HS)) fun w108 => mX3_settleTints_L13 x1 i0 w108 FU x102 x103 u0
def mX3_isCell (u0 : HS) (i0 : Nat) (x1 : Int32) (x2 : Int32) : Option Int32 :=
  if (x1 < 0) then (some 0)
  else (if ((gI u0 3 i0 0) ≤ x1) then (some 0)
  else (if (x2 < 0) then (some 0)
  else (if (300 ≤ x2) then (some 0)
  else (some 1))))
def mX3_placeAt (u0 : HS) (i0 : Nat) (x1 : Int32) (x2 : Int32) : Option Int32 :=
  (mX3_isCell u0 i0 x1 x2).bind fun x102 =>
  if (x102 = 0) then (some (-1))
  else ((ck (gR u0 (3 + i0)) ((x1 * 300) + x2)).bind fun k104 =>
  some (gI u0 42 i0 k104))
def mX3_tintAt (u0 : HS) (i0 : Nat) (x1 : Int32) (x2 : Int32) : Option Int32 :=
  (mX3_isCell u0 i0 x1 x2).bind fun x102 =>
  if (x102 = 0) then (some (-1))
  else ((ck (gR u0 (10 + i0)) ((x1 * 300) + x2)).bind fun k104 =>
  some (gI u0 43 i0 k104))
def mX7_farther (x0 : Int32) (x1 : Int32) (x2 : Int32) : Option Int32 :=
  bd ((x0 / 100) - (x1 / 100)) fun x101 =>
  bd ((x0 - x0 / 100 * 100) - (x1 - x1 / 100 * 100)) fun x102 =>
  ((if (0 ≤ x101) then (some x101)
  else (some (-x101))) : Option Int32).bind fun x103 =>
  bd (x103 - x2) fun x105 =>
  ((if (0 ≤ x102) then (some x102)
  else (some (-x102))) : Option Int32).bind fun x106 =>
  if (x105 ≤ x106) then (some x106)
  else (some x105)
def mX3_paceAt (u0 : HS) (i0 : Nat) (x1 : Int32) (x2 : Int32) : Option Int32 :=
  (mX3_placeAt u0 i0 x1 x2).bind fun x102 =>
  (mX3_placeAt u0 i0 x1 (x2 - 1)).bind fun x104 =>
  if (x102 = (-1)) then (some 0)
  else (if (x104 = (-1)) then (some 0)
  else ((mX7_farther x102 x104 0).bind fun x108 =>
  some x108))
def mX3_turned_L2 (u0 : HS) (i0 : Nat) (x2 : Int32) (x1 : Int32) (w102 : Option Int32) : Nat → Int32 → Option Int32
  | 0, _ => none
  | fu + 1, x101 =>
    if ((gI u0 3 i0 7) ≤ x101) then (w102)
    else ((ck 72 ((x101 * 3) + 1)).bind fun k104 =>
    bd (x2 - (gI u0 41 i0 k104)) fun x105 =>
    (ck 72 (x101 * 3)).bind fun k106 =>
    jp (((bd (x101 + 1) fun x108 =>
    mX3_turned_L2 u0 i0 x2 x1 w102 fu x108) : Option Int32)) fun j107 =>
    if ((gI u0 41 i0 k106) = x1) then (if (x105 < 0) then (j107)
    else (if (9 < x105) then (j107)
    else (some 1)))
    else (j107))
def mX3_turned (u0 : HS) (i0 : Nat) (x1 : Int32) (x2 : Int32) : Option Int32 :=
  jp (((some 0) : Option Int32)) fun w102 => mX3_turned_L2 u0 i0 x2 x1 w102 FU 0
def mX3_crowd_L5 (u0 : HS) (i0 : Nat) (x2 : Int32) (w104 : Int32 → Option Int32) : Nat → Int32 → Int32 → Option Int32
  | 0, _, _ => none
  | fu + 1, x101, x102 =>
    if (x102 < 0) then (w104 x101)
    else (if ((Nat.toInt32 (gR u0 (3 + i0))) ≤ x102) then (w104 x101)
    else ((ck (gR u0 (3 + i0)) x102).bind fun k107 =>
    ((if ((gI u0 42 i0 k107) = (-1)) then (some x101)
    else ((ck (gR u0 (10 + i0)) x102).bind fun k112 =>
    bd (x101 + ((x2 >>> ((gI u0 43 i0 k112) &&& 31)) &&& 1)) fun x113 =>
    some x113)) : Option Int32).bind fun x108 =>
    bd (x102 + 300) fun x110 =>
    mX3_crowd_L5 u0 i0 x2 w104 fu x108 x110))
def mX3_crowd (u0 : HS) (i0 : Nat) (x1 : Int32) (x2 : Int32) : Option Int32 :=
  jp (fun (x103 : Int32) =>
  ((some x103) : Option Int32)) fun w104 => mX3_crowd_L5 u0 i0 x2 w104 FU 0 x1
def mX3_isThrownFrom (u0 : HS) (i0 : Nat) (x1 : Int32) (x2 : Int32) : Option Int32 :=
  (ck 72 x1).bind fun k101 =>
  (ck 72 (x1 + 2)).bind fun k102 =>
  (ck (gR u0 (10 + i0)) (((gI u0 40 i0 k101) * 300) + (gI u0 40 i0 k102))).bind fun k103 =>
  if ((gI u0 43 i0 k103) = x2) then (some 1)
  else (some 0)
def mX3_throwsFrom_L4 (u0 : HS) (i0 : Nat) (x1 : Int32) (w104 : Int32 → Option Int32) : Nat → Int32 → Int32 → Option Int32
  | 0, _, _ => none
  | fu + 1, x101, x102 =>
    if ((gI u0 3 i0 5) ≤ x102) then (w104 x101)
    else ((mX3_isThrownFrom u0 i0 (x102 * 3) x1).bind fun x107 =>
    ((if (x107 = 0) then (some 0)
    else (some 1)) : Option Int32).bind fun x108 =>
    bd (x101 + x108) fun x110 =>
    bd (x102 + 1) fun x111 =>
    mX3_throwsFrom_L4 u0 i0 x1 w104 fu x110 x111)
def mX3_throwsFrom (u0 : HS) (i0 : Nat) (x1 : Int32) : Option Int32 :=
  jp (fun (x103 : Int32) =>
  ((some x103) : Option Int32)) fun w104 => mX3_throwsFrom_L4 u0 i0 x1 w104 FU 0 0
def mX4_plain (u0 : HS) : Option HS :=
  bd (wI u0 4 0 3 (-1)) fun u101 =>
  bd (wI u101 4 0 5 0) fun u102 =>
  some u102
def mX4_drawBy (u0 : HS) (x1 : Int32) (x2 : Int32) : Option HS :=
  bd (wI u0 4 0 3 x1) fun u101 =>
  bd (wI u101 4 0 4 x2) fun u102 =>
  some u102
def mX4_heedChangesAlone (u0 : HS) : Option HS :=
  bd (wI u0 4 0 5 1) fun u101 =>
  some u101
def mX4_joined (x0 : Int32) (x1 : Int32) (x2 : Int32) : Option Int32 :=
  if (x0 = (-29)) then (some (x1 &&& x2))
  else if (x0 = (-28)) then (if (x1 = x2) then (some 1)
  else (some 0))
  else if (x0 = (-27)) then (if (x1 ≤ x2) then (some 0)
  else (some 1))
  else if (x0 = (-26)) then (if (x2 ≤ x1) then (some 0)
  else (some 1))
  else if (x0 = (-25)) then (if (x1 ≤ x2) then (some x2)
  else (some x1))
  else if (x0 = (-24)) then (if (x2 ≤ x1) then (some x2)
  else (some x1))
  else if (x0 = (-23)) then (if (x2 = 0) then (some 0)
  else ((nz x2).bind fun _ =>
  some (x1 / x2)))
  else if (x0 = (-22)) then (some (x1 * x2))
  else if (x0 = (-21)) then (some (x1 - x2))
  else if (x0 = (-20)) then (some (x1 + x2))
  else (some (x1 ||| x2))
def mX4_work_L6 (x3 : Int32) (i1 : Nat) (w106 : Int32 → HS → Option (Int32 × HS)) : Nat → Int32 → Int32 → HS → Option (Int32 × HS)
  | 0, _, _, _ => none
  | fu + 1, x101, x102, u103 =>
    if (x3 ≤ x102) then (w106 x101 u103)
    else ((ck 400 x102).bind fun k110 =>
    bd (gI u103 32 i1 k110) fun x111 =>
    jp (fun (x112 : Int32) (u113 : HS) =>
    ((bd (x102 + 1) fun x115 =>
    mX4_work_L6 x3 i1 w106 fu x112 x115 u113) : Option (Int32 × HS))) fun j114 =>
    jp (((jp (((if (x101 ≤ 1) then (j114 x101 u103)
    else (bd (x101 + (-1)) fun x119 =>
    (ck 64 (x119 - 1)).bind fun k120 =>
    (ck 64 x119).bind fun k121 =>
    (mX4_joined x111 (gI u103 44 0 k120) (gI u103 44 0 k121)).bind fun x123 =>
    (ck 64 (x119 - 1)).bind fun k124 =>
    bd (wI u103 44 0 k124 x123) fun u125 =>
    j114 x119 u125)) : Option (Int32 × HS))) fun j117 =>
    if (x111 = (-31)) then (if (x101 ≤ 0) then (j117)
    else ((ck 64 (x101 - 1)).bind fun k128 =>
    ((if ((gI u103 44 0 k128) = 0) then (some 1)
    else (some 0)) : Option Int32).bind fun x129 =>
    (ck 64 (x101 - 1)).bind fun k131 =>
    bd (wI u103 44 0 k131 x129) fun u132 =>
    j114 x101 u132))
    else (j117)) : Option (Int32 × HS))) fun j116 =>
    if (x111 < (-11)) then (j116)
    else (if (64 ≤ x101) then (j116)
    else (((if (x111 < 0) then ((ck 11 ((-1) - x111)).bind fun k142 =>
    some (gI u103 48 0 k142))
    else (some x111)) : Option Int32).bind fun x136 =>
    (ck 64 x101).bind fun k138 =>
    bd (wI u103 44 0 k138 x136) fun u139 =>
    bd (x101 + 1) fun x140 =>
    j114 x140 u139)))
def mX4_work (u0 : HS) (i1 : Nat) (x2 : Int32) (x3 : Int32) : Option (Int32 × HS) :=
  jp (fun (x104 : Int32) (u105 : HS) =>
  ((if (x104 = 0) then (some (1, u105))
  else ((ck 64 0).bind fun k108 =>
  some (gI u105 44 0 k108, u105))) : Option (Int32 × HS))) fun w106 => mX4_work_L6 x3 i1 w106 FU 0 x2 u0
def mX4_getsNow_L4 (i1 : Nat) (w106 : Int32 → HS → Option (Int32 × HS)) : Nat → Int32 → Int32 → HS → Option (Int32 × HS)
  | 0, _, _, _ => none
  | fu + 1, x101, x102, u103 =>
    if ((gI u103 1 i1 2) ≤ x102) then (w106 x101 u103)
    else (if ((gI u103 7 0 6) = 0) then (w106 x101 u103)
    else ((ck 16 x102).bind fun k111 =>
    jp (fun (x112 : Int32) (u113 : HS) =>
    ((bd (x102 + 1) fun x115 =>
    mX4_getsNow_L4 i1 w106 fu x112 x115 u113) : Option (Int32 × HS))) fun j114 =>
    if ((gI u103 33 i1 k111) = 0) then ((ck 16 x102).bind fun k117 =>
    (ck 16 x102).bind fun k118 =>
    (mX4_work u103 i1 (gI u103 35 i1 k117) (gI u103 36 i1 k118)).bind fun z119 => bd z119.1 fun x120 => bd z119.2 fun u121 =>
    if (x120 = 0) then (j114 x101 u121)
    else ((ck 16 x102).bind fun k123 =>
    (ck 16 x102).bind fun k124 =>
    (mX4_work u121 i1 (gI u121 34 i1 k123) (gI u121 35 i1 k124)).bind fun z125 => bd z125.1 fun x126 => bd z125.2 fun u127 =>
    bd (x101 + x126) fun x128 =>
    j114 x128 u127))
    else (j114 x101 u103)))
def mX4_getsNow (u0 : HS) (i1 : Nat) : Option (Int32 × HS) :=
  jp (fun (x104 : Int32) (u105 : HS) =>
  ((bd (if (x104 < 1000) then x104 else 1000) fun x107 =>
  bd (if (0 < x107) then x107 else 0) fun x108 =>
  some (x108, u105)) : Option (Int32 × HS))) fun w106 => mX4_getsNow_L4 i1 w106 FU 0 0 u0
def mX4_lastOf_L8 (i1 : Nat) (x2 : Int32) (x4 : Int32) (x3 : Int32) (w105 : HS → Option (Int32 × HS)) : Nat → Int32 → HS → Option (Int32 × HS)
  | 0, _, _ => none
  | fu + 1, x102, u103 =>
    if (x102 < 0) then (w105 u103)
    else ((ck 16 x102).bind fun k107 =>
    jp (fun (u108 : HS) =>
    ((bd (x102 + (-1)) fun x110 =>
    mX4_lastOf_L8 i1 x2 x4 x3 w105 fu x110 u108) : Option (Int32 × HS))) fun j109 =>
    if ((gI u103 33 i1 k107) = x2) then ((ck 16 x102).bind fun k112 =>
    (ck 16 x102).bind fun k113 =>
    (mX4_work u103 i1 (gI u103 35 i1 k112) (gI u103 36 i1 k113)).bind fun z114 => bd z114.1 fun x115 => bd z114.2 fun u116 =>
    if (x115 = 0) then (j109 u116)
    else ((ck 16 x102).bind fun k118 =>
    (ck 16 x102).bind fun k119 =>
    (mX4_work u116 i1 (gI u116 34 i1 k118) (gI u116 35 i1 k119)).bind fun z120 => bd z120.1 fun x121 => bd z120.2 fun u122 =>
    bd (if (x121 < x4) then x121 else x4) fun x123 =>
    bd (if (x3 < x123) then x123 else x3) fun x124 =>
    some (x124, u122)))
    else (j109 u103))
def mX4_lastOf (u0 : HS) (i1 : Nat) (x2 : Int32) (x3 : Int32) (x4 : Int32) (x5 : Int32) : Option (Int32 × HS) :=
  bd ((gI u0 1 i1 2) - 1) fun x101 =>
  jp (fun (u104 : HS) =>
  ((some (x5, u104)) : Option (Int32 × HS))) fun w105 => mX4_lastOf_L8 i1 x2 x4 x3 w105 FU x101 u0
def mX4_lineNow (u0 : HS) (i1 : Nat) : Option (Int32 × HS) :=
  (mX4_lastOf u0 i1 1 1 100000 100).bind fun z101 => bd z101.1 fun x102 => bd z101.2 fun u103 =>
  some (x102, u103)
def mX4_drawNow (u0 : HS) : Option (Int32 × HS) :=
  if ((gI u0 4 0 3) = (-1)) then (some (0, u0))
  else (if ((gI u0 7 0 6) = 0) then (some (0, u0))
  else (bd (wI u0 4 0 4 (((gI u0 4 0 4) * 1103515245) + 12345)) fun u103 =>
  (nz ((gI u103 4 0 3) + 1)).bind fun _ =>
  some (((ushr (gI u103 4 0 4) 16) &&& 32767) - ((ushr (gI u103 4 0 4) 16) &&& 32767) / ((gI u103 4 0 3) + 1) * ((gI u103 4 0 3) + 1), u103)))
def mX7_regard (u0 : HS) (x1 : Int32) (x2 : Int32) : Option HS :=
  (mX3_placeAt u0 (gR u0 1) x1 x2).bind fun x103 =>
  (mX3_placeAt u0 (gR u0 1) x1 (x2 - 1)).bind fun x106 =>
  (mX3_tintAt u0 (gR u0 1) x1 x2).bind fun x109 =>
  (ck 300 x2).bind fun k110 =>
  bd (gI u0 46 0 k110) fun x111 =>
  (mX3_crowd u0 (gR u0 1) x2 (gI u0 6 (gR u0 2) 0)).bind fun x115 =>
  bd (x115 - (gI u0 6 (gR u0 2) 3)) fun x117 =>
  ((jp (((some 0) : Option Int32)) fun j181 =>
  if (x103 = (-1)) then (j181)
  else (if (x111 = (-1)) then (j181)
  else (some 1))) : Option Int32).bind fun x118 =>
  (zb x118).bind fun _ =>
  bd (wI u0 7 0 6 x118) fun u121 =>
  (ck 11 0).bind fun k123 =>
  bd (wI u121 48 0 k123 (((gI u121 6 (gR u121 2) 0) >>> (x109 &&& 31)) &&& 1)) fun u124 =>
  (ck 11 1).bind fun k126 =>
  bd (wI u124 48 0 k126 (((gI u124 6 (gR u124 2) 1) >>> (x109 &&& 31)) &&& 1)) fun u127 =>
  ((if ((gI u127 7 0 6) = 0) then (some 99)
  else ((mX7_farther x103 x111 (gI u127 7 0 8)).bind fun x180 =>
  some x180)) : Option Int32).bind fun x128 =>
  (ck 11 2).bind fun k130 =>
  bd (wI u127 48 0 k130 x128) fun u131 =>
  ((if ((gI u131 7 0 7) = (-1)) then ((ck 8 x1).bind fun k177 =>
  some (gI u131 38 (gR u131 1) k177))
  else (some (gI u131 7 0 7))) : Option Int32).bind fun x132 =>
  (ck 11 3).bind fun k134 =>
  bd (wI u131 48 0 k134 x132) fun u135 =>
  ((jp (((some 0) : Option Int32)) fun j169 =>
  if (x103 = (-1)) then (j169)
  else (if (x106 = (-1)) then (j169)
  else ((mX7_farther x103 x106 0).bind fun x173 =>
  (nz (gI u135 7 0 9)).bind fun _ =>
  some (x173 / (gI u135 7 0 9))))) : Option Int32).bind fun x136 =>
  (ck 11 4).bind fun k138 =>
  bd (wI u135 48 0 k138 x136) fun u139 =>
  ((if (x117 ≤ 0) then (some 0)
  else (some x117)) : Option Int32).bind fun x140 =>
  (ck 11 5).bind fun k142 =>
  bd (wI u139 48 0 k142 x140) fun u143 =>
  ((if (x1 = (gI u143 3 (gR u143 1) 9)) then (some 1)
  else (some 0)) : Option Int32).bind fun x145 =>
  (ck 11 6).bind fun k147 =>
  bd (wI u143 48 0 k147 x145) fun u148 =>
  (ck 11 7).bind fun k150 =>
  bd (wI u148 48 0 k150 (gI u148 6 (gR u148 2) 4)) fun u151 =>
  (mX3_turned u151 (gR u151 1) x1 x2).bind fun x154 =>
  ((if (x154 = 0) then (some 0)
  else (some 1)) : Option Int32).bind fun x155 =>
  (ck 11 8).bind fun k157 =>
  bd (wI u151 48 0 k157 x155) fun u158 =>
  ((if ((gI u158 7 0 2) = 0) then (some 0)
  else (some 1)) : Option Int32).bind fun x159 =>
  (ck 11 9).bind fun k161 =>
  bd (wI u158 48 0 k161 x159) fun u162 =>
  (ck 11 10).bind fun k163 =>
  bd (wI u162 48 0 k163 x2) fun u164 =>
  some u164
def mX4_addFrom_L3 (x4 : Int32) (x2 : Int32) (i1 : Nat) (w104 : HS → Option HS) : Nat → Int32 → HS → Option HS
  | 0, _, _ => none
  | fu + 1, x101, u102 =>
    if (x4 < x101) then (w104 u102)
    else ((mX7_regard u102 x2 x101).bind fun u107 =>
    (mX4_getsNow u107 i1).bind fun z108 => bd z108.1 fun x109 => bd z108.2 fun u110 =>
    bd (wI u110 4 0 2 ((gI u107 4 0 2) + x109)) fun u111 =>
    bd (x101 + 1) fun x112 =>
    mX4_addFrom_L3 x4 x2 i1 w104 fu x112 u111)
def mX4_addFrom (u0 : HS) (i1 : Nat) (x2 : Int32) (x3 : Int32) (x4 : Int32) : Option HS :=
  jp (fun (u103 : HS) =>
  ((some u103) : Option HS)) fun w104 => mX4_addFrom_L3 x4 x2 i1 w104 FU x3 u0
def mX4_sumTo (u0 : HS) (i1 : Nat) (x2 : Int32) (x3 : Int32) : Option (Int32 × HS) :=
  bd (wI u0 4 0 2 0) fun u101 =>
  (mX4_addFrom u101 i1 x2 0 x3).bind fun u103 =>
  some (gI u103 4 0 2, u103)
def mX4_firstSeen_L7 (x2 : Int32) (i1 : Nat) (w105 : HS → Option (Int32 × HS)) : Nat → Int32 → HS → Option (Int32 × HS)
  | 0, _, _ => none
  | fu + 1, x102, u103 =>
    if ((gI u103 3 (gR u103 1) 11) < x102) then (w105 u103)
    else (jp (fun (u108 : HS) =>
    ((bd (x102 + 1) fun x110 =>
    mX4_firstSeen_L7 x2 i1 w105 fu x110 u108) : Option (Int32 × HS))) fun j109 =>
    jp ((((mX7_regard u103 x2 x102).bind fun u113 =>
    (mX4_getsNow u113 i1).bind fun z114 => bd z114.1 fun x115 => bd z114.2 fun u116 =>
    (mX4_drawNow u116).bind fun z117 => bd z117.1 fun x118 => bd z117.2 fun u119 =>
    bd (wI u119 4 0 2 ((gI u113 4 0 2) + (x115 + x118))) fun u120 =>
    if ((gI u120 4 0 2) ≤ 0) then (j109 u120)
    else ((mX4_lastOf u120 i1 1 1 100000 100).bind fun z122 => bd z122.1 fun x123 => bd z122.2 fun u124 =>
    if ((gI u120 4 0 2) < x123) then (j109 u124)
    else (some (x102, u124)))) : Option (Int32 × HS))) fun j111 =>
    if ((gI u103 4 0 5) = 0) then (j111)
    else ((mX3_turned u103 (gR u103 1) x2 x102).bind fun x129 =>
    if (x129 = 0) then (j109 u103)
    else (j111)))
def mX4_firstSeen (u0 : HS) (i1 : Nat) (x2 : Int32) : Option (Int32 × HS) :=
  bd (wI u0 4 0 2 0) fun u101 =>
  jp (fun (u104 : HS) =>
  ((some ((-1), u104)) : Option (Int32 × HS))) fun w105 => mX4_firstSeen_L7 x2 i1 w105 FU 0 u101
def mX4_judge (u0 : HS) (i1 : Nat) : Option (Int32 × HS) :=
  bd (gI u0 3 (gR u0 1) 9) fun x102 =>
  bd (gI u0 3 (gR u0 1) 11) fun x104 =>
  jp (fun (x105 : Int32) (u106 : HS) =>
  ((if (x105 = (-1)) then (some (0, u106))
  else ((mX4_addFrom u106 i1 x102 (x105 + 1) x104).bind fun u110 =>
  (mX7_regard u110 x102 x104).bind fun u112 =>
  (mX4_lastOf u112 i1 2 0 999 999).bind fun z113 => bd z113.1 fun x114 => bd z113.2 fun u115 =>
  ((if ((x104 - x105) ≤ x114) then (some 1)
  else (bd (1 ||| 2) fun x124 =>
  some x124)) : Option Int32).bind fun x116 =>
  (mX4_lastOf u115 i1 3 0 100000 0).bind fun z118 => bd z118.1 fun x119 => bd z118.2 fun u120 =>
  if (x119 ≤ (gI u115 4 0 2)) then (some (x116, u120))
  else (bd (x116 ||| 4) fun x122 =>
  some (x122, u120)))) : Option (Int32 × HS))) fun j107 =>
  if (x102 = (-1)) then (j107 (-1) u0)
  else ((mX4_firstSeen u0 i1 x102).bind fun z126 => bd z126.1 fun x127 => bd z126.2 fun u128 =>
  j107 x127 u128)
def mX5_hasRoom (u0 : HS) : Option Int32 :=
  if (400 < ((gI u0 5 0 1) + 20)) then (some 0)
  else (some 1)
def mX5_put_L3 (x1 : Int32) (w104 : HS → Option HS) : Nat → Int32 → HS → Option HS
  | 0, _, _ => none
  | fu + 1, x101, u102 =>
    if (x101 < 0) then (w104 u102)
    else (if (400 ≤ (gI u102 5 0 1)) then (w104 u102)
    else ((ck 400 (gI u102 5 0 1)).bind fun k107 =>
    bd (wI u102 45 0 k107 ((ushr x1 x101) &&& 255)) fun u108 =>
    bd (wI u108 5 0 1 ((gI u108 5 0 1) + 1)) fun u109 =>
    bd (x101 + (-8)) fun x110 =>
    mX5_put_L3 x1 w104 fu x110 u109))
def mX5_put (u0 : HS) (x1 : Int32) : Option HS :=
  jp (fun (u103 : HS) =>
  ((some u103) : Option HS)) fun w104 => mX5_put_L3 x1 w104 FU 24 u0
def mX5_open (u0 : HS) (x1 : Int32) : Option HS :=
  bd (wI u0 5 0 2 x1) fun u101 =>
  bd (wI u101 5 0 1 0) fun u102 =>
  bd (wI u102 5 0 3 0) fun u103 =>
  bd (wI u103 5 0 4 0) fun u104 =>
  bd (wI u104 5 0 5 0) fun u105 =>
  bd (wI u105 5 0 6 (-1)) fun u106 =>
  some u106
def mX6_put (u0 : HS) (i0 : Nat) (x1 : Int32) (x2 : Int32) : Option HS :=
  if (x1 = 0) then (bd (wI u0 6 i0 0 ((gI u0 6 i0 0) ||| ((1 : Int32) <<< (x2 &&& 31)))) fun u102 =>
  some u102)
  else if (x1 = 1) then (bd (wI u0 6 i0 1 ((gI u0 6 i0 1) ||| ((1 : Int32) <<< (x2 &&& 31)))) fun u104 =>
  some u104)
  else if (x1 = 2) then (bd (wI u0 6 i0 2 x2) fun u106 =>
  some u106)
  else if (x1 = 3) then (bd (wI u0 6 i0 3 x2) fun u108 =>
  some u108)
  else (bd (wI u0 6 i0 4 x2) fun u109 =>
  some u109)
def mX6_read_L27 (i0 : Nat) (w109 : HS → Option HS) : Nat → Int32 → HS → Option HS
  | 0, _, _ => none
  | fu + 1, x106, u107 =>
    if (16 < x106) then (w109 u107)
    else ((mX5_clauseWord u107 17 x106 16).bind fun z111 => bd z111.1 fun x112 => bd z111.2 fun u113 =>
    if (x112 = (-1)) then (some u113)
    else (((if (3 ≤ x112) then (some 9)
    else (some 7)) : Option Int32).bind fun x115 =>
    (mX5_demandNumber u113 0 x115).bind fun z117 => bd z117.1 fun x118 => bd z117.2 fun u119 =>
    (mX6_put u119 i0 x112 x118).bind fun u121 =>
    (mX5_demandSign u121 0).bind fun z122 => bd z122.1 fun x123 => bd z122.2 fun u124 =>
    bd (x106 + 1) fun x125 =>
    mX6_read_L27 i0 w109 fu x125 u124))
def mX6_read (u0 : HS) (i0 : Nat) : Option HS :=
  bd (wI u0 6 i0 0 0) fun u101 =>
  bd (wI u101 6 i0 1 0) fun u102 =>
  bd (wI u102 6 i0 2 (-1)) fun u103 =>
  bd (wI u103 6 i0 3 4) fun u104 =>
  bd (wI u104 6 i0 4 0) fun u105 =>
  jp (fun (u108 : HS) =>
  ((some u108) : Option HS)) fun w109 => mX6_read_L27 i0 w109 FU 0 u105
def mX7_bend (u0 : HS) (x1 : Int32) (x2 : Int32) : Option HS :=
  ((if (x1 = 0) then (some x2)
  else (some (-1))) : Option Int32).bind fun x101 =>
  bd (wI u0 7 0 7 x101) fun u103 =>
  ((if (x1 = 1) then (some x2)
  else (some 0)) : Option Int32).bind fun x104 =>
  bd (wI u103 7 0 8 x104) fun u106 =>
  ((jp (((some 1) : Option Int32)) fun j110 =>
  if (x1 = 2) then (if (x2 ≤ 0) then (j110)
  else (some x2))
  else (j110)) : Option Int32).bind fun x107 =>
  bd (wI u106 7 0 9 x107) fun u109 =>
  some u109
def mX7_clearLatest_L2 (x1 : Int32) (w104 : HS → Option HS) : Nat → Int32 → HS → Option HS
  | 0, _, _ => none
  | fu + 1, x101, u102 =>
    if (x1 < x101) then (w104 u102)
    else (if (300 ≤ x101) then (w104 u102)
    else ((ck 300 x101).bind fun k107 =>
    bd (wI u102 47 0 k107 (-1)) fun u108 =>
    bd (x101 + 1) fun x109 =>
    mX7_clearLatest_L2 x1 w104 fu x109 u108))
def mX7_clearLatest (u0 : HS) (x1 : Int32) : Option HS :=
  jp (fun (u103 : HS) =>
  ((some u103) : Option HS)) fun w104 => mX7_clearLatest_L2 x1 w104 FU 0 u0
def mX7_follow_L88 (x1 : Int32) (w111 : HS → Option HS) : Nat → Int32 → Int32 → HS → Option HS
  | 0, _, _, _ => none
  | fu + 1, x107, x108, u109 =>
    if (x1 < x108) then (w111 u109)
    else (if (300 ≤ x108) then (w111 u109)
    else ((ck 300 x108).bind fun k114 =>
    ((if ((gI u109 47 0 k114) = (-1)) then (some x107)
    else ((ck 300 x108).bind fun k127 =>
    some (gI u109 47 0 k127))) : Option Int32).bind fun x115 =>
    (mX3_placeAt u109 (gR u109 1) x115 x108).bind fun x119 =>
    ((if (x119 = (-1)) then (some 2015)
    else (some x119)) : Option Int32).bind fun x120 =>
    (ck 300 x108).bind fun k122 =>
    bd (wI u109 46 0 k122 x120) fun u123 =>
    bd (x108 + 1) fun x124 =>
    mX7_follow_L88 x1 w111 fu x115 x124 u123))
def mX7_follow_L7  (w106 : HS → Option HS) : Nat → Int32 → HS → Option HS
  | 0, _, _ => none
  | fu + 1, x103, u104 =>
    if ((gI u104 3 (gR u104 1) 5) ≤ x103) then (w106 u104)
    else (if ((gI u104 6 (gR u104 2) 2) = (-1)) then (w106 u104)
    else (bd (x103 * 3) fun x132 =>
    (mX3_isThrownFrom u104 (gR u104 1) x132 (gI u104 6 (gR u104 2) 2)).bind fun x136 =>
    ((if (x136 = 0) then (some u104)
    else ((ck 72 (x132 + 2)).bind fun k142 =>
    (ck 72 (x132 + 1)).bind fun k144 =>
    (ck 300 (gI u104 40 (gR u104 1) k142)).bind fun k145 =>
    bd (wI u104 47 0 k145 (gI u104 40 (gR u104 1) k144)) fun u146 =>
    some u146)) : Option HS).bind fun u137 =>
    bd (x103 + 1) fun x139 =>
    mX7_follow_L7  w106 fu x139 u137))
def mX7_follow (u0 : HS) (x1 : Int32) : Option HS :=
  (mX7_clearLatest u0 x1).bind fun u102 =>
  jp (fun (u105 : HS) =>
  ((jp (fun (u110 : HS) =>
  ((some u110) : Option HS)) fun w111 => mX7_follow_L88 x1 w111 FU (-1) 0 u105) : Option HS)) fun w106 => mX7_follow_L7  w106 FU 0 u102
def mX7_open (u0 : HS) (i1 : Nat) (i2 : Nat) (x3 : Int32) (x4 : Int32) : Option HS :=
  bd (wR u0 1 i1) fun u101 =>
  bd (wR u101 2 i2) fun u102 =>
  (zb x3).bind fun _ =>
  bd (wI u102 7 0 2 x3) fun u104 =>
  (mX7_bend u104 (-1) 0).bind fun u106 =>
  (mX7_follow u106 x4).bind fun u108 =>
  some u108
def mX7_shut_L2 (x2 : Int32) (w104 : HS → Option HS) : Nat → Int32 → HS → Option HS
  | 0, _, _ => none
  | fu + 1, x101, u102 =>
    if (x2 < x101) then (w104 u102)
    else (if (300 ≤ x101) then (w104 u102)
    else ((ck 300 x101).bind fun k107 =>
    bd (wI u102 46 0 k107 (-1)) fun u108 =>
    bd (x101 + 1) fun x109 =>
    mX7_shut_L2 x2 w104 fu x109 u108))
def mX7_shut (u0 : HS) (x1 : Int32) (x2 : Int32) : Option HS :=
  jp (fun (u103 : HS) =>
  ((some u103) : Option HS)) fun w104 => mX7_shut_L2 x2 w104 FU x1 u0
def mX7_heed_L132 (i1 : Nat) (x2 : Int32) (x3 : Int32) (w115 : HS → Option HS) : Nat → Int32 → HS → Option HS
  | 0, _, _ => none
  | fu + 1, x112, u113 =>
    if ((gI u113 0 i1 11) ≤ x112) then (w115 u113)
    else ((ck 40 x112).bind fun k117 =>
    ((if ((gI u113 28 i1 k117) = x2) then ((ck 40 x112).bind fun k122 =>
    (ck 40 x112).bind fun k123 =>
    bd (if ((gI u113 30 i1 k123) < x3) then (gI u113 30 i1 k123) else x3) fun x124 =>
    (mX7_shut u113 (gI u113 29 i1 k122) x124).bind fun u126 =>
    some u126)
    else (some u113)) : Option HS).bind fun u118 =>
    bd (x112 + 1) fun x120 =>
    mX7_heed_L132 i1 x2 x3 w115 fu x120 u118)
def mX7_heed_L59 (x3 : Int32) (w111 : HS → Option HS) : Nat → Int32 → Int32 → HS → Option HS
  | 0, _, _, _ => none
  | fu + 1, x107, x108, u109 =>
    if (x3 < x108) then (w111 u109)
    else (if (300 ≤ x108) then (w111 u109)
    else ((ck 300 x108).bind fun k129 =>
    ((if ((gI u109 47 0 k129) = (-1)) then (some x107)
    else ((ck 300 x108).bind fun k140 =>
    some (gI u109 47 0 k140))) : Option Int32).bind fun x130 =>
    ((if (x130 = (-1)) then ((ck 300 x108).bind fun k138 =>
    some (gI u109 46 0 k138))
    else (some x130)) : Option Int32).bind fun x132 =>
    (ck 300 x108).bind fun k134 =>
    bd (wI u109 46 0 k134 x132) fun u135 =>
    bd (x108 + 1) fun x136 =>
    mX7_heed_L59 x3 w111 fu x130 x136 u135))
def mX7_heed_L8 (i1 : Nat) (x2 : Int32) (w106 : HS → Option HS) : Nat → Int32 → HS → Option HS
  | 0, _, _ => none
  | fu + 1, x103, u104 =>
    if ((gI u104 0 i1 7) ≤ x103) then (w106 u104)
    else ((ck 60 x103).bind fun k142 =>
    ((if ((gI u104 25 i1 k142) = x2) then ((ck 60 x103).bind fun k147 =>
    (ck 60 x103).bind fun k148 =>
    (ck 300 (gI u104 26 i1 k147)).bind fun k149 =>
    bd (wI u104 47 0 k149 (gI u104 27 i1 k148)) fun u150 =>
    some u150)
    else (some u104)) : Option HS).bind fun u143 =>
    bd (x103 + 1) fun x145 =>
    mX7_heed_L8 i1 x2 w106 fu x145 u143)
def mX7_heed (u0 : HS) (i1 : Nat) (x2 : Int32) (x3 : Int32) : Option HS :=
  (mX7_clearLatest u0 x3).bind fun u102 =>
  jp (fun (u105 : HS) =>
  ((jp (fun (u110 : HS) =>
  ((jp (fun (u114 : HS) =>
  ((some u114) : Option HS)) fun w115 => mX7_heed_L132 i1 x2 x3 w115 FU 0 u110) : Option HS)) fun w111 => mX7_heed_L59 x3 w111 FU (-1) 0 u105) : Option HS)) fun w106 => mX7_heed_L8 i1 x2 w106 FU 0 u102
def mX7_nearInTenth (u0 : HS) (x1 : Int32) (x2 : Int32) : Option Int32 :=
  (mX3_placeAt u0 (gR u0 1) x1 x2).bind fun x103 =>
  if (x103 = (-1)) then (some 99)
  else ((ck 300 x2).bind fun k105 =>
  if ((gI u0 46 0 k105) = (-1)) then (some 99)
  else ((ck 300 x2).bind fun k107 =>
  (mX7_farther x103 (gI u0 46 0 k107) 0).bind fun x109 =>
  some x109))
def mX7_tenthsWithin_L4 (u0 : HS) (x1 : Int32) (w104 : Int32 → Option Int32) : Nat → Int32 → Int32 → Option Int32
  | 0, _, _ => none
  | fu + 1, x101, x102 =>
    if ((gI u0 3 (gR u0 1) 11) < x102) then (w104 x101)
    else ((mX7_nearInTenth u0 (gI u0 3 (gR u0 1) 9) x102).bind fun x109 =>
    ((if (x1 < x109) then (some 0)
    else (some 1)) : Option Int32).bind fun x110 =>
    bd (x101 + x110) fun x112 =>
    bd (x102 + 1) fun x113 =>
    mX7_tenthsWithin_L4 u0 x1 w104 fu x112 x113)
def mX7_tenthsWithin (u0 : HS) (x1 : Int32) : Option Int32 :=
  jp (fun (x103 : Int32) =>
  ((some x103) : Option Int32)) fun w104 => mX7_tenthsWithin_L4 u0 x1 w104 FU 0 0
def mX7_isDropped_L2 (u0 : HS) (w102 : Option Int32) : Nat → Int32 → Option Int32
  | 0, _ => none
  | fu + 1, x101 =>
    if ((gI u0 3 (gR u0 1) 11) < x101) then (w102)
    else ((mX3_placeAt u0 (gR u0 1) (gI u0 3 (gR u0 1) 9) x101).bind fun x108 =>
    jp (((bd (x101 + 1) fun x110 =>
    mX7_isDropped_L2 u0 w102 fu x110) : Option Int32)) fun j109 =>
    if (x108 = (-1)) then (j109)
    else ((mX3_tintAt u0 (gR u0 1) (gI u0 3 (gR u0 1) 9) x101).bind fun x116 =>
    if ((((gI u0 6 (gR u0 2) 1) >>> (x116 &&& 31)) &&& 1) = 0) then (j109)
    else (some 1)))
def mX7_isDropped (u0 : HS) : Option Int32 :=
  jp (((some 0) : Option Int32)) fun w102 => mX7_isDropped_L2 u0 w102 FU 0
def mX7_blindness (u0 : HS) (x1 : Int32) : Option Int32 :=
  if ((gI u0 3 (gR u0 1) 9) = (-1)) then (some 0)
  else ((mX7_isDropped u0).bind fun x104 =>
  if (x104 = 0) then ((mX7_tenthsWithin u0 (x1 - 1)).bind fun x107 =>
  if (x107 = 0) then (some 6)
  else ((mX7_tenthsWithin u0 2).bind fun x110 =>
  if (x110 = 0) then (some 1)
  else (some 2)))
  else (some 5))
def mX8_feed (u0 : HS) (x1 : Int32) (x2 : Int32) (x3 : Int32) (x4 : Int32) (x5 : Int32) : Option (Int32 × HS) :=
  (mX5_hasRoom u0).bind fun x102 =>
  if (x102 = 0) then (some ((-1), u0))
  else ((mX5_put u0 x1).bind fun u105 =>
  (mX5_put u105 x2).bind fun u107 =>
  (mX5_put u107 x3).bind fun u109 =>
  (mX5_put u109 x4).bind fun u111 =>
  (mX5_put u111 x5).bind fun u113 =>
  some (gI u113 5 0 1, u113))
def mX8_fault (u0 : HS) : Option Int32 :=
  some (gI u0 5 0 6)
def mX8_sceneFor (u0 : HS) (x1 : Int32) : Option Nat :=
  (ck 14 x1).bind fun k101 =>
  (ck 6 (gI u0 20 0 k101)).bind fun k102 =>
  some k102
def mX8_isHeard (u0 : HS) (x1 : Int32) : Option Int32 :=
  (mX8_sceneFor u0 x1).bind fun k102 =>
  if ((gI u0 3 k102 9) = (-1)) then (some 0)
  else ((mX0_isKnowing u0 0 x1).bind fun x105 =>
  if (x105 = 0) then ((mX0_reply u0 0 x1 0).bind fun x108 =>
  if (x108 = (-1)) then (some 0)
  else (some 1))
  else (some 0))
def mX8_lookAs (u0 : HS) (x1 : Int32) (x2 : Int32) : Option HS :=
  (mX8_sceneFor u0 x1).bind fun k102 =>
  (ck 14 x1).bind fun k103 =>
  (ck 6 (gI u0 21 0 k103)).bind fun k104 =>
  (mX0_isKnowing u0 0 x1).bind fun x106 =>
  (mX7_open u0 k102 k104 x106 x2).bind fun u108 =>
  (mX7_heed u108 0 x1 x2).bind fun u110 =>
  (mX4_plain u110).bind fun u112 =>
  some u112
def mX8_stateOf (u0 : HS) (x1 : Int32) (x2 : Int32) : Option (Int32 × HS) :=
  bd ((x2 * 4) + x1) fun x101 =>
  (ck 200 x101).bind fun k102 =>
  ((if ((gI u0 54 0 k102) = (-1)) then ((mX8_sceneFor u0 x2).bind fun k108 =>
  (mX8_lookAs u0 x2 (gI u0 3 k108 11)).bind fun u110 =>
  (ck 4 x1).bind fun k111 =>
  (mX4_judge u110 k111).bind fun z112 => bd z112.1 fun x113 => bd z112.2 fun u114 =>
  (ck 200 x101).bind fun k115 =>
  bd (wI u114 54 0 k115 x113) fun u116 =>
  some u116)
  else (some u0)) : Option HS).bind fun u103 =>
  (ck 200 x101).bind fun k105 =>
  some (gI u103 54 0 k105, u103)
def mX8_isYes (x0 : Int32) (x1 : Int32) : Option Int32 :=
  if (x1 = 0) then (if (x0 = 1) then (some 1)
  else (some 0))
  else if (x1 = 1) then (if ((x0 &&& 5) = 1) then (some 1)
  else (some 0))
  else (if ((x0 &&& 1) = 0) then (some 0)
  else (some 1))
def mX8_oddsOf_L14 (x1 : Int32) (w108 : Int64 → HS → Option (Int64 × HS)) : Nat → Int64 → Int32 → HS → Option (Int64 × HS)
  | 0, _, _, _ => none
  | fu + 1, y103, x104, u105 =>
    if ((gI u105 0 0 0) ≤ x104) then (w108 y103 u105)
    else ((mX8_isHeard u105 x104).bind fun x111 =>
    jp (fun (y112 : Int64) (u113 : HS) =>
    ((bd (x104 + 1) fun x115 =>
    mX8_oddsOf_L14 x1 w108 fu y112 x115 u113) : Option (Int64 × HS))) fun j114 =>
    if (x111 = 0) then (j114 y103 u105)
    else ((mX8_stateOf u105 x1 x104).bind fun z117 => bd z117.1 fun x118 => bd z117.2 fun u119 =>
    (mX8_isYes x118 0).bind fun x121 =>
    (mX0_reply u119 0 x104 0).bind fun x123 =>
    ((if (x123 = 1) then (some 1)
    else (some 0)) : Option Int32).bind fun x124 =>
    ((if (x121 = x124) then (some 1)
    else (some 0)) : Option Int32).bind fun x126 =>
    ((if (x126 = 0) then (some ((gI u119 0 0 16).toInt64))
    else (some ((16 - (gI u119 0 0 16)).toInt64))) : Option Int64).bind fun y128 =>
    bd (y103 * y128) fun y130 =>
    j114 y130 u119))
def mX8_oddsOf (u0 : HS) (x1 : Int32) : Option (Int64 × HS) :=
  (ck 4 x1).bind fun k101 =>
  bd ((gI u0 31 0 k101).toInt64) fun y102 =>
  jp (fun (y106 : Int64) (u107 : HS) =>
  ((some (y106, u107)) : Option (Int64 × HS))) fun w108 => mX8_oddsOf_L14 x1 w108 FU y102 0 u0
def mX8_best_L7  (w107 : Int32 → HS → Option (Int32 × HS)) : Nat → Int32 → Int64 → Int32 → HS → Option (Int32 × HS)
  | 0, _, _, _, _ => none
  | fu + 1, x101, y102, x103, u104 =>
    if ((gI u104 8 0 6) ≤ x103) then (w107 x101 u104)
    else ((mX8_oddsOf u104 x103).bind fun z109 => bd z109.1 fun y110 => bd z109.2 fun u111 =>
    jp (fun (x112 : Int32) (y113 : Int64) =>
    ((bd (x103 + 1) fun x115 =>
    mX8_best_L7  w107 fu x112 y113 x115 u111) : Option (Int32 × HS))) fun j114 =>
    jp (((j114 x103 y110) : Option (Int32 × HS))) fun j116 =>
    if (x101 = (-1)) then (j116)
    else (if ((lg_cmp y110 y102) ≤ 0) then (j114 x101 y102)
    else (j116)))
def mX8_best (u0 : HS) : Option (Int32 × HS) :=
  jp (fun (x105 : Int32) (u106 : HS) =>
  ((some (x105, u106)) : Option (Int32 × HS))) fun w107 => mX8_best_L7  w107 FU (-1) 0 0 u0
def mX8_stateOfNew (u0 : HS) (x1 : Int32) (x2 : Int32) (x3 : Int32) : Option (Int32 × HS) :=
  bd ((((14 + (x2 * 6)) + x3) * 4) + x1) fun x101 =>
  (ck 200 x101).bind fun k102 =>
  ((if ((gI u0 54 0 k102) = (-1)) then ((ck 6 x2).bind fun k107 =>
  (ck 6 x3).bind fun k108 =>
  (ck 6 x2).bind fun k109 =>
  (mX7_open u0 k107 k108 0 (gI u0 3 k109 11)).bind fun u111 =>
  (mX4_plain u111).bind fun u113 =>
  (ck 4 x1).bind fun k114 =>
  (mX4_judge u113 k114).bind fun z115 => bd z115.1 fun x116 => bd z115.2 fun u117 =>
  (ck 200 x101).bind fun k118 =>
  bd (wI u117 54 0 k118 x116) fun u119 =>
  some u119)
  else (some u0)) : Option HS).bind fun u103 =>
  (ck 200 x101).bind fun k105 =>
  some (gI u103 54 0 k105, u103)
def mX8_lesserOdds_L8 (x1 : Int32) (x2 : Int32) (w108 : Int64 → Int64 → HS → Option (Int64 × HS)) : Nat → Int64 → Int64 → Int32 → HS → Option (Int64 × HS)
  | 0, _, _, _, _ => none
  | fu + 1, y101, y102, x103, u104 =>
    if ((gI u104 8 0 6) ≤ x103) then (w108 y101 y102 u104)
    else ((mX8_stateOfNew u104 x103 x1 x2).bind fun z111 => bd z111.1 fun x112 => bd z111.2 fun u113 =>
    (mX8_isYes x112 0).bind fun x115 =>
    jp (fun (y116 : Int64) (y117 : Int64) =>
    ((bd (x103 + 1) fun x119 =>
    mX8_lesserOdds_L8 x1 x2 w108 fu y116 y117 x119 u113) : Option (Int64 × HS))) fun j118 =>
    if (x115 = 0) then ((ck 4 x103).bind fun k121 =>
    bd (y102 + (gL u113 55 0 k121)) fun y122 =>
    j118 y101 y122)
    else ((ck 4 x103).bind fun k123 =>
    bd (y101 + (gL u113 55 0 k123)) fun y124 =>
    j118 y124 y102))
def mX8_lesserOdds (u0 : HS) (x1 : Int32) (x2 : Int32) : Option (Int64 × HS) :=
  jp (fun (y105 : Int64) (y106 : Int64) (u107 : HS) =>
  ((bd (if (y106 < y105) then y106 else y105) fun y109 =>
  some (y109, u107)) : Option (Int64 × HS))) fun w108 => mX8_lesserOdds_L8 x1 x2 w108 FU 0 0 0 u0
def mX8_next_L55 (x108 : Int32) (w121 : Int32 → Int64 → HS → Option (Int32 × HS)) : Nat → Int32 → Int64 → Int32 → HS → Option (Int32 × HS)
  | 0, _, _, _, _ => none
  | fu + 1, x114, y115, x116, u117 =>
    if ((gI u117 8 0 4) ≤ x116) then (w121 x114 y115 u117)
    else ((ck 6 x108).bind fun k124 =>
    if ((gI u117 3 k124 9) = (-1)) then (w121 x114 y115 u117)
    else ((mX8_lesserOdds u117 x108 x116).bind fun z126 => bd z126.1 fun y127 => bd z126.2 fun u128 =>
    jp (fun (x129 : Int32) (y130 : Int64) =>
    ((bd (x116 + 1) fun x132 =>
    mX8_next_L55 x108 w121 fu x129 y130 x132 u128) : Option (Int32 × HS))) fun j131 =>
    jp (((bd ((10 * x108) + x116) fun x134 =>
    j131 x134 y127) : Option (Int32 × HS))) fun j133 =>
    if (x114 = (-1)) then (j133)
    else (if ((lg_cmp y127 y115) ≤ 0) then (j131 x114 y115)
    else (j133))))
def mX8_next_L43  (w112 : Int32 → HS → Option (Int32 × HS)) : Nat → Int32 → Int64 → Int32 → HS → Option (Int32 × HS)
  | 0, _, _, _, _ => none
  | fu + 1, x106, y107, x108, u109 =>
    if ((gI u109 8 0 2) ≤ x108) then (w112 x106 u109)
    else (jp (fun (x118 : Int32) (y119 : Int64) (u120 : HS) =>
    ((bd (x108 + 1) fun x122 =>
    mX8_next_L43  w112 fu x118 y119 x122 u120) : Option (Int32 × HS))) fun w121 => mX8_next_L55 x108 w121 FU x106 y107 0 u109)
def mX8_next_L11  (w105 : HS → Option (Int32 × HS)) : Nat → Int32 → HS → Option (Int32 × HS)
  | 0, _, _ => none
  | fu + 1, x102, u103 =>
    if ((gI u103 8 0 6) ≤ x102) then (w105 u103)
    else ((mX8_oddsOf u103 x102).bind fun z138 => bd z138.1 fun y139 => bd z138.2 fun u140 =>
    (ck 4 x102).bind fun k141 =>
    bd (wL u140 55 0 k141 y139) fun u142 =>
    bd (x102 + 1) fun x143 =>
    mX8_next_L11  w105 fu x143 u142)
def mX8_next (u0 : HS) : Option (Int32 × HS) :=
  if ((gI u0 8 0 6) = 0) then (some ((-1), u0))
  else (jp (fun (u104 : HS) =>
  ((jp (fun (x110 : Int32) (u111 : HS) =>
  ((some (x110, u111)) : Option (Int32 × HS))) fun w112 => mX8_next_L43  w112 FU (-1) 0 0 u104) : Option (Int32 × HS))) fun w105 => mX8_next_L11  w105 FU 0 u0)
def mX8_image (u0 : HS) : Option (Int32 × HS) :=
  if ((gI u0 8 0 10) = 3) then (some ((-1), u0))
  else ((ck 3 (gI u0 8 0 10)).bind fun k102 =>
  (mX0_copyFrom u0 (k102 + 1) 0).bind fun u104 =>
  bd (wI u104 8 0 10 ((gI u104 8 0 10) + 1)) fun u105 =>
  some (gI u105 8 0 10, u105))
def mX8_forgetStates_L2 (x1 : Int32) (w104 : HS → Option HS) : Nat → Int32 → HS → Option HS
  | 0, _, _ => none
  | fu + 1, x101, u102 =>
    if (4 ≤ x101) then (w104 u102)
    else ((ck 200 ((x1 * 4) + x101)).bind fun k106 =>
    bd (wI u102 54 0 k106 (-1)) fun u107 =>
    bd (x101 + 1) fun x108 =>
    mX8_forgetStates_L2 x1 w104 fu x108 u107)
def mX8_forgetStates (u0 : HS) (x1 : Int32) : Option HS :=
  jp (fun (u103 : HS) =>
  ((some u103) : Option HS)) fun w104 => mX8_forgetStates_L2 x1 w104 FU 0 u0
def mX8_restore_L37  (w109 : HS → Option (Int32 × HS)) : Nat → Int32 → HS → Option (Int32 × HS)
  | 0, _, _ => none
  | fu + 1, x106, u107 =>
    if (14 ≤ x106) then (w109 u107)
    else ((mX8_forgetStates u107 x106).bind fun u112 =>
    bd (x106 + 1) fun x113 =>
    mX8_restore_L37  w109 fu x113 u112)
def mX8_restore (u0 : HS) : Option (Int32 × HS) :=
  if ((gI u0 8 0 10) = 0) then (some ((-1), u0))
  else (bd (wI u0 8 0 10 ((gI u0 8 0 10) - 1)) fun u102 =>
  (ck 3 (gI u102 8 0 10)).bind fun k103 =>
  (mX0_copyFrom u102 0 (k103 + 1)).bind fun u105 =>
  jp (fun (u108 : HS) =>
  ((some (gI u108 8 0 10, u108)) : Option (Int32 × HS))) fun w109 => mX8_restore_L37  w109 FU 0 u105)
def mX8_count (u0 : HS) (x1 : Int32) : Option Int32 :=
  if (x1 = 0) then (some (gI u0 8 0 2))
  else if (x1 = 1) then (some (gI u0 8 0 4))
  else if (x1 = 2) then (some (gI u0 8 0 6))
  else if (x1 = 3) then (some (gI u0 0 0 0))
  else if (x1 = 4) then (some (gI u0 0 0 7))
  else if (x1 = 5) then (some (gI u0 0 0 11))
  else if (x1 = 6) then (some (gI u0 8 0 10))
  else if (x1 = 7) then (some (gI u0 5 0 1))
  else if (x1 = 8) then (some (gI u0 0 0 16))
  else (some (-1))
def mX8_isTenth (x0 : Int32) : Option Int32 :=
  if (x0 < 0) then (some 0)
  else (if (300 ≤ x0) then (some 0)
  else (some 1))
def mX8_isAsking (x0 : Int32) : Option Int32 :=
  if (x0 < 0) then (some 0)
  else (if (3 ≤ x0) then (some 0)
  else (some 1))
def mX8_isFit (x0 : Int32) : Option Int32 :=
  if (x0 < 0) then (some 0)
  else (if (14 < x0) then (some 0)
  else (some 1))
def mX8_changeSeen (u0 : HS) (x1 : Int32) (x2 : Int32) : Option (Int32 × HS) :=
  (mX8_sceneFor u0 x2).bind fun k102 =>
  if ((gI u0 3 k102 10) = (-1)) then (some ((-1), u0))
  else ((mX8_lookAs u0 x2 (gI u0 3 k102 11)).bind fun u105 =>
  (mX4_heedChangesAlone u105).bind fun u107 =>
  (ck 4 x1).bind fun k108 =>
  (mX4_firstSeen u107 k108 (gI u107 3 k102 10)).bind fun z109 => bd z109.1 fun x110 => bd z109.2 fun u111 =>
  some (x110, u111))
def mX8_wasOnIt (u0 : HS) (x1 : Int32) : Option (Int32 × HS) :=
  (mX8_sceneFor u0 x1).bind fun k102 =>
  (mX8_lookAs u0 x1 (gI u0 3 k102 11)).bind fun u104 =>
  (mX7_tenthsWithin u104 2).bind fun x106 =>
  if (x106 ≤ 0) then (some (0, u104))
  else (some (1, u104))
def mX8_lostBy (u0 : HS) (x1 : Int32) : Option Int32 :=
  (ck 14 x1).bind fun k101 =>
  (ck 6 (gI u0 21 0 k101)).bind fun k102 =>
  bd (gI u0 6 k102 2) fun x103 =>
  if (x103 = (-1)) then (some (-1))
  else ((ck 14 x1).bind fun k105 =>
  if ((gI u0 23 0 k105) = (-1)) then (some (-1))
  else ((mX8_sceneFor u0 x1).bind fun k108 =>
  (mX3_throwsFrom u0 k108 x103).bind fun x110 =>
  (ck 14 x1).bind fun k111 =>
  bd (if (0 ≤ (x110 - (gI u0 23 0 k111))) then (x110 - (gI u0 23 0 k111)) else 0 - (x110 - (gI u0 23 0 k111))) fun x112 =>
  some x112))
def mX8_lostTogether_L5 (u0 : HS) (x1 : Int32) (x2 : Int32) (w104 : Int32 → Option Int32) : Nat → Int32 → Int32 → Option Int32
  | 0, _, _ => none
  | fu + 1, x101, x102 =>
    if ((gI u0 0 0 0) ≤ x102) then (w104 x101)
    else ((mX0_hasTallied u0 0 x102 x1 x2).bind fun x107 =>
    ((if (x107 = 0) then (some x101)
    else ((mX8_lostBy u0 x102).bind fun x113 =>
    bd (x101 + x113) fun x114 =>
    some x114)) : Option Int32).bind fun x108 =>
    bd (x102 + 1) fun x110 =>
    mX8_lostTogether_L5 u0 x1 x2 w104 fu x108 x110)
def mX8_lostTogether (u0 : HS) (x1 : Int32) (x2 : Int32) : Option Int32 :=
  jp (fun (x103 : Int32) =>
  ((some x103) : Option Int32)) fun w104 => mX8_lostTogether_L5 u0 x1 x2 w104 FU 0 0
def mX8_root_L2 (x0 : Int32) (w103 : Int32 → Option Int32) : Nat → Int32 → Option Int32
  | 0, _ => none
  | fu + 1, x101 =>
    if (x0 < ((x101 + 1) * (x101 + 1))) then (w103 x101)
    else (if (14 ≤ x101) then (w103 x101)
    else (bd (x101 + 1) fun x106 =>
    mX8_root_L2 x0 w103 fu x106))
def mX8_root (x0 : Int32) : Option Int32 :=
  jp (fun (x102 : Int32) =>
  ((some x102) : Option Int32)) fun w103 => mX8_root_L2 x0 w103 FU 0
def mX8_choose_L16 (x1 : Int32) (x0 : Int32) (w106 : Int64 → Option Int32) : Nat → Int64 → Int32 → Option Int32
  | 0, _, _ => none
  | fu + 1, y103, x104 =>
    if (x1 < x104) then (w106 y103)
    else ((nzL (x104.toInt64)).bind fun _ =>
    bd ((y103 * (((x0 - x1) + x104).toInt64)) / (x104.toInt64)) fun y109 =>
    bd (x104 + 1) fun x110 =>
    mX8_choose_L16 x1 x0 w106 fu y109 x110)
def mX8_choose (x0 : Int32) (x1 : Int32) : Option Int32 :=
  if (x1 < 0) then (some 0)
  else (if (x1 ≤ x0) then (jp (fun (y105 : Int64) =>
  ((some (y105.toInt32)) : Option Int32)) fun w106 => mX8_choose_L16 x1 x0 w106 FU 1 1)
  else (some 0))
def mX8_waysOf_L19 (x101 : Int32) (x0 : Int32) (x102 : Int32) (w106 : Int32 → Option Int32) : Nat → Int32 → Int32 → Option Int32
  | 0, _, _ => none
  | fu + 1, x103, x104 =>
    if (x101 < x104) then (w106 x103)
    else (if (x0 < x104) then (w106 x103)
    else ((mX8_choose x101 x104).bind fun x110 =>
    (mX8_choose x102 (x0 - x104)).bind fun x112 =>
    bd (x103 + (x110 * x112)) fun x113 =>
    bd (x104 + 1) fun x114 =>
    mX8_waysOf_L19 x101 x0 x102 w106 fu x113 x114))
def mX8_waysOf (x0 : Int32) (x1 : Int32) (x2 : Int32) (x3 : Int32) : Option Int32 :=
  bd (x1 + x3) fun x101 =>
  bd ((x0 + x2) - x101) fun x102 =>
  jp (fun (x105 : Int32) =>
  ((some x105) : Option Int32)) fun w106 => mX8_waysOf_L19 x101 x0 x102 w106 FU 0 x1
def mX8_fitting_L18 (x102 : Int32) (w113 : Int32 → HS → Option (Int32 × HS)) : Nat → Int32 → Int32 → HS → Option (Int32 × HS)
  | 0, _, _, _ => none
  | fu + 1, x108, x109, u110 =>
    if ((gI u110 0 0 0) ≤ x109) then (w113 x108 u110)
    else ((mX8_isHeard u110 x109).bind fun x121 =>
    jp (fun (x122 : Int32) (u123 : HS) =>
    ((bd (x109 + 1) fun x125 =>
    mX8_fitting_L18 x102 w113 fu x122 x125 u123) : Option (Int32 × HS))) fun j124 =>
    if (x121 = 0) then (j124 x108 u110)
    else ((mX8_stateOf u110 x102 x109).bind fun z127 => bd z127.1 fun x128 => bd z127.2 fun u129 =>
    (mX8_isYes x128 0).bind fun x131 =>
    (mX0_reply u129 0 x109 0).bind fun x133 =>
    ((if (x133 = 1) then (some 1)
    else (some 0)) : Option Int32).bind fun x134 =>
    if (x131 = x134) then (j124 x108 u129)
    else (bd (x108 + 1) fun x137 =>
    j124 x137 u129)))
def mX8_fitting_L4 (x1 : Int32) (w106 : Int32 → HS → Option (Int32 × HS)) : Nat → Int32 → Int32 → HS → Option (Int32 × HS)
  | 0, _, _, _ => none
  | fu + 1, x101, x102, u103 =>
    if ((gI u103 8 0 6) ≤ x102) then (w106 x101 u103)
    else (jp (fun (x111 : Int32) (u112 : HS) =>
    ((((if (x1 < x111) then (some 0)
    else (some ((1 : Int32) <<< (x102 &&& 31)))) : Option Int32).bind fun x114 =>
    bd (x101 ||| x114) fun x116 =>
    bd (x102 + 1) fun x117 =>
    mX8_fitting_L4 x1 w106 fu x116 x117 u112) : Option (Int32 × HS))) fun w113 => mX8_fitting_L18 x102 w113 FU 0 0 u103)
def mX8_fitting (u0 : HS) (x1 : Int32) : Option (Int32 × HS) :=
  jp (fun (x104 : Int32) (u105 : HS) =>
  ((some (x104, u105)) : Option (Int32 × HS))) fun w106 => mX8_fitting_L4 x1 w106 FU 0 0 u0
def mX9_thrown (u0 : HS) : Option Int32 :=
  some (gI u0 9 0 0)
def mX9_bad (u0 : HS) (x1 : Int32) (x2 : Int32) : Option (Int32 × HS) :=
  ((if (x1 = 0) then (some u0)
  else (if ((gI u0 9 0 0) = 0) then (bd (wI u0 9 0 0 x2) fun u106 =>
  some u106)
  else (some u0))) : Option HS).bind fun u101 =>
  if ((gI u101 9 0 0) = 0) then (some (0, u101))
  else (some (1, u101))
def mX9_in (x0 : Int32) (x1 : Int32) (x2 : Int32) : Option Int32 :=
  if (x0 < x1) then (some 0)
  else (if (x2 < x0) then (some 0)
  else (some 1))
def mX9_within (x0 : Int32) (x1 : Int32) (x2 : Int32) : Option Int32 :=
  if (x1 ≤ x0) then (if (x0 ≤ x2) then (some x0)
  else (some x2))
  else (some x1)
def mX9_more (x0 : Int32) (x1 : Int32) : Option Int32 :=
  if (x0 ≤ x1) then (some x1)
  else (some x0)
def mX9_less (x0 : Int32) (x1 : Int32) : Option Int32 :=
  if (x1 ≤ x0) then (some x1)
  else (some x0)
def mX9_amount (x0 : Int32) : Option Int32 :=
  if (0 ≤ x0) then (some x0)
  else (some (-x0))
def mX9_feed_L23 (x5 : Int32) (x4 : Int32) (x3 : Int32) (x2 : Int32) (x1 : Int32) (w106 : HS → Option (Int32 × HS)) : Nat → Int32 → HS → Option (Int32 × HS)
  | 0, _, _ => none
  | fu + 1, x103, u104 =>
    if (20 ≤ x103) then (w106 u104)
    else (((if (4 ≤ x103) then (if (8 ≤ x103) then (if (12 ≤ x103) then (if (16 ≤ x103) then (some x5)
    else (some x4))
    else (some x3))
    else (some x2))
    else (some x1)) : Option Int32).bind fun x108 =>
    (ck 400 (gI u104 9 0 1)).bind fun k110 =>
    bd (wI u104 60 0 k110 ((x108 >>> ((24 - (8 * (x103 - x103 / 4 * 4))) &&& 31)) &&& 255)) fun u111 =>
    bd (wI u111 9 0 1 ((gI u111 9 0 1) + 1)) fun u112 =>
    bd (x103 + 1) fun x113 =>
    mX9_feed_L23 x5 x4 x3 x2 x1 w106 fu x113 u112)
def mX9_feed (u0 : HS) (x1 : Int32) (x2 : Int32) (x3 : Int32) (x4 : Int32) (x5 : Int32) : Option (Int32 × HS) :=
  bd (wI u0 9 0 0 0) fun u101 =>
  if (((gI u101 9 0 1) + 20) ≤ 400) then (jp (fun (u105 : HS) =>
  ((some (gI u105 9 0 1, u105)) : Option (Int32 × HS))) fun w106 => mX9_feed_L23 x5 x4 x3 x2 x1 w106 FU 0 u101)
  else (some ((-1), u101))
def mX9_byteAt (u0 : HS) (x1 : Int32) : Option Int32 :=
  if (x1 < (gI u0 9 0 2)) then ((ck 400 x1).bind fun k102 =>
  some (gI u0 60 0 k102))
  else (some (-1))
def mX9_blanks_L0  (w103 : HS → Option HS) : Nat → HS → Option HS
  | 0, _ => none
  | fu + 1, u101 =>
    (mX9_byteAt u101 (gI u101 9 0 4)).bind fun x105 =>
    if (x105 = 32) then (bd (wI u101 9 0 4 ((gI u101 9 0 4) + 1)) fun u107 =>
    mX9_blanks_L0  w103 fu u107)
    else (w103 u101)
def mX9_blanks (u0 : HS) : Option HS :=
  jp (fun (u102 : HS) =>
  ((some u102) : Option HS)) fun w103 => mX9_blanks_L0  w103 FU u0
def mX9_wrongAt (u0 : HS) (x1 : Int32) (x2 : Int32) : Option HS :=
  if ((gI u0 9 0 6) = 0) then (bd (wI u0 9 0 6 x1) fun u102 =>
  bd (wI u102 9 0 7 x2) fun u103 =>
  some u103)
  else (some u0)
def mX9_tells (u0 : HS) (x1 : Int32) : Option HS :=
  if ((gI u0 9 0 6) = 0) then ((ck 500 (gI u0 9 0 8)).bind fun k102 =>
  bd (wI u0 61 0 k102 x1) fun u103 =>
  bd (wI u103 9 0 8 ((gI u103 9 0 8) + 1)) fun u104 =>
  some u104)
  else (some u0)
def mX9_isDigit (x0 : Int32) : Option Int32 :=
  if (x0 < 48) then (some 0)
  else (if (57 < x0) then (some 0)
  else (some 1))
def mX9_number_L45  (w115 : Int32 → HS → Option (Int32 × HS)) : Nat → Int32 → HS → Option (Int32 × HS)
  | 0, _, _ => none
  | fu + 1, x111, u112 =>
    (mX9_byteAt u112 (gI u112 9 0 4)).bind fun x124 =>
    (mX9_isDigit x124).bind fun x126 =>
    if (x126 = 0) then (w115 x111 u112)
    else ((mX9_byteAt u112 (gI u112 9 0 4)).bind fun x129 =>
    bd (((10 * x111) + x129) - 48) fun x130 =>
    ((if (x130 ≤ 100000) then (some x130)
    else (some 100000)) : Option Int32).bind fun x131 =>
    bd (wI u112 9 0 4 ((gI u112 9 0 4) + 1)) fun u133 =>
    mX9_number_L45  w115 fu x131 u133)
def mX9_number (u0 : HS) (x1 : Int32) (x2 : Int32) (x3 : Int32) : Option (Int32 × HS) :=
  if ((gI u0 9 0 6) = 0) then ((mX9_blanks u0).bind fun u103 =>
  bd (gI u103 9 0 4) fun x104 =>
  (mX9_byteAt u103 (gI u103 9 0 4)).bind fun x106 =>
  (mX9_isDigit x106).bind fun x108 =>
  jp (fun (u109 : HS) =>
  ((jp (fun (x113 : Int32) (u114 : HS) =>
  (((mX9_in x113 x1 x2).bind fun x117 =>
  jp ((((mX9_wrongAt u114 2 x104).bind fun u120 =>
  some (x113, u120)) : Option (Int32 × HS))) fun j118 =>
  if (x117 = 0) then (j118)
  else (if (x113 = x3) then (j118)
  else (some (x113, u114)))) : Option (Int32 × HS))) fun w115 => mX9_number_L45  w115 FU 0 u109) : Option (Int32 × HS))) fun j110 =>
  if (x108 = 0) then ((mX9_wrongAt u103 1 (gI u103 9 0 4)).bind fun u137 =>
  j110 u137)
  else (j110 u103))
  else (some (0, u0))
def mX9_wordHere_L8 (u102 : HS) (w107 : Int32 → Int32 → Option (Int32 × HS)) : Nat → Int32 → Int32 → Option (Int32 × HS)
  | 0, _, _ => none
  | fu + 1, x103, x104 =>
    (mX9_byteAt u102 ((gI u102 9 0 4) + x104)).bind fun x110 =>
    if (x110 < 97) then (w107 x103 x104)
    else ((mX9_byteAt u102 ((gI u102 9 0 4) + x104)).bind fun x113 =>
    if (122 < x113) then (w107 x103 x104)
    else (((if (6 ≤ x104) then (some x103)
    else ((mX9_byteAt u102 ((gI u102 9 0 4) + x104)).bind fun x120 =>
    some ((((27 * x103) + x120) - 97) + 1))) : Option Int32).bind fun x115 =>
    bd (x104 + 1) fun x117 =>
    mX9_wordHere_L8 u102 w107 fu x115 x117))
def mX9_wordHere (u0 : HS) : Option (Int32 × HS) :=
  (mX9_blanks u0).bind fun u102 =>
  jp (fun (x105 : Int32) (x106 : Int32) =>
  ((if (x106 ≤ 6) then (some (x105, u102))
  else (some ((-1), u102))) : Option (Int32 × HS))) fun w107 => mX9_wordHere_L8 u102 w107 FU 0 0
def mX9_word (x0 : Int32) (x1 : Int32) (x2 : Int32) (x3 : Int32) (x4 : Int32) (x5 : Int32) : Option Int32 :=
  bd ((27 * x0) + x1) fun x101 =>
  ((if (x2 = 0) then (some x101)
  else (some ((27 * x101) + x2))) : Option Int32).bind fun x102 =>
  ((if (x3 = 0) then (some x102)
  else (some ((27 * x102) + x3))) : Option Int32).bind fun x104 =>
  ((if (x4 = 0) then (some x104)
  else (some ((27 * x104) + x4))) : Option Int32).bind fun x106 =>
  if (x5 = 0) then (some x106)
  else (some ((27 * x106) + x5))
def mX9_isWord (u0 : HS) (x1 : Int32) (x2 : Int32) (x3 : Int32) (x4 : Int32) (x5 : Int32) (x6 : Int32) : Option (Int32 × HS) :=
  if ((gI u0 9 0 6) = 0) then ((mX9_wordHere u0).bind fun z102 => bd z102.1 fun x103 => bd z102.2 fun u104 =>
  (mX9_word x1 x2 x3 x4 x5 x6).bind fun x106 =>
  if (x103 = x106) then (some (1, u104))
  else (some (0, u104)))
  else (some (0, u0))
def mX9_skipWord_L0  (w103 : HS → Option HS) : Nat → HS → Option HS
  | 0, _ => none
  | fu + 1, u101 =>
    (mX9_byteAt u101 (gI u101 9 0 4)).bind fun x105 =>
    if (x105 < 97) then (w103 u101)
    else ((mX9_byteAt u101 (gI u101 9 0 4)).bind fun x108 =>
    if (122 < x108) then (w103 u101)
    else (bd (wI u101 9 0 4 ((gI u101 9 0 4) + 1)) fun u110 =>
    mX9_skipWord_L0  w103 fu u110))
def mX9_skipWord (u0 : HS) : Option HS :=
  jp (fun (u102 : HS) =>
  ((some u102) : Option HS)) fun w103 => mX9_skipWord_L0  w103 FU u0
def mX9_sign (u0 : HS) (x1 : Int32) : Option HS :=
  if ((gI u0 9 0 6) = 0) then ((mX9_blanks u0).bind fun u103 =>
  (mX9_byteAt u103 (gI u103 9 0 4)).bind fun x105 =>
  if (x105 = x1) then (bd (wI u103 9 0 4 ((gI u103 9 0 4) + 1)) fun u109 =>
  some u109)
  else ((mX9_wrongAt u103 1 (gI u103 9 0 4)).bind fun u108 =>
  some u108))
  else (some u0)
def mX9_opens (u0 : HS) (x1 : Int32) : Option HS :=
  ((if ((gI u0 9 0 5) = 6) then ((mX9_wrongAt u0 3 (gI u0 9 0 4)).bind fun u107 =>
  some u107)
  else (some u0)) : Option HS).bind fun u101 =>
  bd (wI u101 9 0 5 ((gI u101 9 0 5) + 1)) fun u103 =>
  bd (wI u103 9 0 4 ((gI u103 9 0 4) + x1)) fun u104 =>
  some u104
def mX9_begins (u0 : HS) (x1 : Int32) : Option HS :=
  bd (wI u0 9 0 2 x1) fun u101 =>
  bd (wI u101 9 0 4 0) fun u102 =>
  bd (wI u102 9 0 5 0) fun u103 =>
  bd (wI u103 9 0 6 0) fun u104 =>
  bd (wI u104 9 0 7 (-1)) fun u105 =>
  bd (wI u105 9 0 8 0) fun u106 =>
  bd (wI u106 9 0 9 0) fun u107 =>
  bd (wI u107 9 0 10 0) fun u108 =>
  (mX9_blanks u108).bind fun u110 =>
  some u110
def mX9_needs (u0 : HS) (x1 : Int32) (x2 : Int32) : Option HS :=
  if (x1 = (-1)) then ((mX9_wrongAt u0 1 (gI u0 9 0 4)).bind fun u106 =>
  some u106)
  else (if ((gI u0 9 0 9) = x2) then ((mX9_wrongAt u0 3 (gI u0 9 0 4)).bind fun u104 =>
  some u104)
  else (some u0))
def mX9_sceneHere (u0 : HS) : Option (Int32 × HS) :=
  (mX9_isWord u0 20 8 9 14 7 0).bind fun z101 => bd z101.1 fun x102 => bd z101.2 fun u103 =>
  if (x102 = 0) then ((mX9_isWord u103 23 1 25 0 0 0).bind fun z105 => bd z105.1 fun x106 => bd z105.2 fun u107 =>
  if (x106 = 0) then ((mX9_isWord u107 20 8 18 15 23 0).bind fun z109 => bd z109.1 fun x110 => bd z109.2 fun u111 =>
  if (x110 = 0) then ((mX9_isWord u111 15 4 4 0 0 0).bind fun z113 => bd z113.1 fun x114 => bd z113.2 fun u115 =>
  if (x114 = 0) then ((mX9_isWord u115 20 21 18 14 0 0).bind fun z117 => bd z117.1 fun x118 => bd z117.2 fun u119 =>
  if (x118 = 0) then (some ((-1), u119))
  else (some (4, u119)))
  else (some (3, u115)))
  else (some (2, u111)))
  else (some (1, u107)))
  else (some (0, u103))
def mX9_readsWay (u0 : HS) (i1 : Nat) : Option HS :=
  (mX9_number u0 0 299 (-1)).bind fun z101 => bd z101.1 fun x102 => bd z101.2 fun u103 =>
  (ck 8 2).bind fun k104 =>
  bd (wI u103 63 i1 k104 x102) fun u105 =>
  (mX9_number u105 0 39 (-1)).bind fun z106 => bd z106.1 fun x107 => bd z106.2 fun u108 =>
  (ck 8 3).bind fun k109 =>
  bd (wI u108 63 i1 k109 x107) fun u110 =>
  (mX9_number u110 0 29 (-1)).bind fun z111 => bd z111.1 fun x112 => bd z111.2 fun u113 =>
  (ck 8 4).bind fun k114 =>
  bd (wI u113 63 i1 k114 x112) fun u115 =>
  (ck 8 2).bind fun k116 =>
  (mX9_number u115 (gI u115 63 i1 k116) 299 (-1)).bind fun z117 => bd z117.1 fun x118 => bd z117.2 fun u119 =>
  (ck 8 5).bind fun k120 =>
  bd (wI u119 63 i1 k120 x118) fun u121 =>
  (mX9_number u121 0 39 (-1)).bind fun z122 => bd z122.1 fun x123 => bd z122.2 fun u124 =>
  (ck 8 6).bind fun k125 =>
  bd (wI u124 63 i1 k125 x123) fun u126 =>
  (mX9_number u126 0 29 (-1)).bind fun z127 => bd z127.1 fun x128 => bd z127.2 fun u129 =>
  (ck 8 7).bind fun k130 =>
  bd (wI u129 63 i1 k130 x128) fun u131 =>
  some u131
def mX9_sceneClause (u0 : HS) : Option HS :=
  (mX9_sceneHere u0).bind fun z101 => bd z101.1 fun x102 => bd z101.2 fun u103 =>
  (mX9_needs u103 x102 24).bind fun u105 =>
  ((if ((gI u105 9 0 6) = 0) then (if (x102 = 0) then (if ((gI u105 9 0 10) = 8) then ((mX9_wrongAt u105 3 (gI u105 9 0 4)).bind fun u179 =>
  some u179)
  else (some u105))
  else (some u105))
  else (some u105)) : Option HS).bind fun u106 =>
  if ((gI u106 9 0 6) = 0) then ((mX9_skipWord u106).bind fun u110 =>
  (ck 24 (gI u110 9 0 9)).bind fun k111 =>
  (ck 8 0).bind fun k112 =>
  bd (wI u110 63 k111 k112 x102) fun u113 =>
  ((if (x102 = 0) then ((mX9_number u113 0 7 (-1)).bind fun z165 => bd z165.1 fun x166 => bd z165.2 fun u167 =>
  (ck 8 1).bind fun k168 =>
  bd (wI u167 63 k111 k168 x166) fun u169 =>
  (mX9_number u169 1 9 (-1)).bind fun z170 => bd z170.1 fun x171 => bd z170.2 fun u172 =>
  (ck 8 2).bind fun k173 =>
  bd (wI u172 63 k111 k173 x171) fun u174 =>
  some u174)
  else ((mX9_number u113 0 ((gI u113 9 0 10) - 1) (-1)).bind fun z124 => bd z124.1 fun x125 => bd z124.2 fun u126 =>
  (ck 8 1).bind fun k127 =>
  bd (wI u126 63 k111 k127 x125) fun u128 =>
  ((if (x102 = 1) then ((mX9_readsWay u128 k111).bind fun u164 =>
  some u164)
  else (some u128)) : Option HS).bind fun u129 =>
  ((if (x102 = 2) then ((ck 8 1).bind fun k156 =>
  (mX9_number u129 0 ((gI u129 9 0 10) - 1) (gI u129 63 k111 k156)).bind fun z157 => bd z157.1 fun x158 => bd z157.2 fun u159 =>
  (ck 8 2).bind fun k160 =>
  bd (wI u159 63 k111 k160 x158) fun u161 =>
  some u161)
  else (some u129)) : Option HS).bind fun u131 =>
  ((if (x102 = 2) then ((mX9_number u131 0 299 (-1)).bind fun z150 => bd z150.1 fun x151 => bd z150.2 fun u152 =>
  (ck 8 3).bind fun k153 =>
  bd (wI u152 63 k111 k153 x151) fun u154 =>
  some u154)
  else (some u131)) : Option HS).bind fun u133 =>
  ((if (x102 = 4) then ((mX9_number u133 0 299 (-1)).bind fun z144 => bd z144.1 fun x145 => bd z144.2 fun u146 =>
  (ck 8 2).bind fun k147 =>
  bd (wI u146 63 k111 k147 x145) fun u148 =>
  some u148)
  else (some u133)) : Option HS).bind fun u135 =>
  if (x102 = 4) then ((mX9_number u135 0 7 (-1)).bind fun z138 => bd z138.1 fun x139 => bd z138.2 fun u140 =>
  (ck 8 3).bind fun k141 =>
  bd (wI u140 63 k111 k141 x139) fun u142 =>
  some u142)
  else (some u135))) : Option HS).bind fun u114 =>
  (mX9_sign u114 59).bind fun u117 =>
  ((if (x102 = 0) then (some 1)
  else (some 0)) : Option Int32).bind fun x118 =>
  bd (wI u117 9 0 10 ((gI u117 9 0 10) + x118)) fun u120 =>
  bd (wI u120 9 0 9 ((gI u120 9 0 9) + 1)) fun u121 =>
  some u121)
  else (some u106)
def mX9_isRead (u0 : HS) (x1 : Int32) (x2 : Int32) : Option (Int32 × HS) :=
  bd (wI u0 9 0 1 0) fun u101 =>
  bd (wI u101 9 0 3 (-1)) fun u102 =>
  if (x2 = 0) then ((mX9_begins u102 x1).bind fun u105 =>
  some (1, u105))
  else (some (0, u102))
def mX9_scene_L143 (x125 : Int32) (w134 : HS → Option (Int32 × HS)) : Nat → Int32 → HS → Option (Int32 × HS)
  | 0, _, _ => none
  | fu + 1, x131, u132 =>
    if (8 ≤ x131) then (w134 u132)
    else ((ck 144 ((24 * (gI u132 9 0 14)) + x125)).bind fun k157 =>
    (ck 24 x125).bind fun k158 =>
    (ck 8 x131).bind fun k159 =>
    (ck 8 x131).bind fun k160 =>
    bd (wI u132 65 k157 k160 (gI u132 63 k158 k159)) fun u161 =>
    bd (x131 + 1) fun x162 =>
    mX9_scene_L143 x125 w134 fu x162 u161)
def mX9_scene_L133  (w128 : HS → Option (Int32 × HS)) : Nat → Int32 → HS → Option (Int32 × HS)
  | 0, _, _ => none
  | fu + 1, x125, u126 =>
    if ((gI u126 9 0 9) ≤ x125) then (w128 u126)
    else (jp (fun (u133 : HS) =>
    (((ck 24 x125).bind fun k135 =>
    (ck 8 0).bind fun k136 =>
    ((if ((gI u133 63 k135 k136) = 0) then ((ck 6 (gI u133 9 0 14)).bind fun k141 =>
    (ck 48 ((8 * (gI u133 9 0 14)) + (gI u133 67 0 k141))).bind fun k142 =>
    (ck 24 x125).bind fun k143 =>
    (ck 8 1).bind fun k144 =>
    (ck 2 0).bind fun k145 =>
    bd (wI u133 69 k142 k145 (gI u133 63 k143 k144)) fun u146 =>
    (ck 6 (gI u146 9 0 14)).bind fun k147 =>
    (ck 48 ((8 * (gI u146 9 0 14)) + (gI u146 67 0 k147))).bind fun k148 =>
    (ck 24 x125).bind fun k149 =>
    (ck 8 2).bind fun k150 =>
    (ck 2 1).bind fun k151 =>
    bd (wI u146 69 k148 k151 (gI u146 63 k149 k150)) fun u152 =>
    (ck 6 (gI u152 9 0 14)).bind fun k153 =>
    (ck 6 (gI u152 9 0 14)).bind fun k154 =>
    bd (wI u152 67 0 k154 ((gI u152 67 0 k153) + 1)) fun u155 =>
    some u155)
    else (some u133)) : Option HS).bind fun u137 =>
    bd (x125 + 1) fun x139 =>
    mX9_scene_L133  w128 fu x139 u137) : Option (Int32 × HS))) fun w134 => mX9_scene_L143 x125 w134 FU 0 u126)
def mX9_scene_L56  (w118 : HS → Option (Int32 × HS)) : Nat → HS → Option (Int32 × HS)
  | 0, _ => none
  | fu + 1, u116 =>
    if ((gI u116 9 0 6) = 0) then (if ((gI u116 9 0 2) ≤ (gI u116 9 0 4)) then (w118 u116)
    else ((mX9_sceneClause u116).bind fun u166 =>
    (mX9_blanks u166).bind fun u168 =>
    mX9_scene_L56  w118 fu u168))
    else (w118 u116)
def mX9_scene (u0 : HS) (x1 : Int32) : Option (Int32 × HS) :=
  bd (wI u0 9 0 0 0) fun u101 =>
  (mX9_in x1 0 (gI u101 9 0 1)).bind fun x103 =>
  ((if (x103 = 0) then (some 1)
  else (some 0)) : Option Int32).bind fun x104 =>
  (mX9_bad u101 x104 1).bind fun z106 => bd z106.1 fun x107 => bd z106.2 fun u108 =>
  if (x107 = 0) then (((if ((gI u108 9 0 14) = 6) then (some 1)
  else (some 0)) : Option Int32).bind fun x110 =>
  (mX9_isRead u108 x1 x110).bind fun z112 => bd z112.1 fun x113 => bd z112.2 fun u114 =>
  if (x113 = 0) then (some ((-1), u114))
  else (jp (fun (u117 : HS) =>
  ((bd (wI u117 9 0 3 (gI u117 9 0 7)) fun u119 =>
  if ((gI u119 9 0 6) = 0) then ((ck 6 (gI u119 9 0 14)).bind fun k121 =>
  bd (wI u119 66 0 k121 (gI u119 9 0 9)) fun u122 =>
  (ck 6 (gI u122 9 0 14)).bind fun k123 =>
  bd (wI u122 67 0 k123 0) fun u124 =>
  jp (fun (u127 : HS) =>
  ((bd (wI u127 9 0 14 ((gI u127 9 0 14) + 1)) fun u129 =>
  some ((gI u129 9 0 14) - 1, u129)) : Option (Int32 × HS))) fun w128 => mX9_scene_L133  w128 FU 0 u124)
  else (some ((gI u119 9 0 6) - 10, u119))) : Option (Int32 × HS))) fun w118 => mX9_scene_L56  w118 FU u114))
  else (some (0, u108))
def mX9_taskHere (u0 : HS) : Option (Int32 × HS) :=
  (mX9_isWord u0 11 5 5 16 0 0).bind fun z101 => bd z101.1 fun x102 => bd z101.2 fun u103 =>
  if (x102 = 0) then ((mX9_isWord u103 4 18 15 16 0 0).bind fun z105 => bd z105.1 fun x106 => bd z105.2 fun u107 =>
  if (x106 = 0) then ((mX9_isWord u107 3 15 21 14 20 0).bind fun z109 => bd z109.1 fun x110 => bd z109.2 fun u111 =>
  if (x110 = 0) then ((mX9_isWord u111 18 15 15 13 0 0).bind fun z113 => bd z113.1 fun x114 => bd z113.2 fun u115 =>
  if (x114 = 0) then ((mX9_isWord u115 23 1 20 3 8 0).bind fun z117 => bd z117.1 fun x118 => bd z117.2 fun u119 =>
  if (x118 = 0) then (some ((-1), u119))
  else (some (4, u119)))
  else (some (3, u115)))
  else (some (2, u111)))
  else (some (1, u107)))
  else (some (0, u103))
def mX9_taskClause (u0 : HS) : Option HS :=
  (mX9_taskHere u0).bind fun z101 => bd z101.1 fun x102 => bd z101.2 fun u103 =>
  (mX9_needs u103 x102 16).bind fun u105 =>
  if ((gI u105 9 0 6) = 0) then ((mX9_skipWord u105).bind fun u108 =>
  ((if (3 ≤ x102) then (some 9)
  else (some 7)) : Option Int32).bind fun x109 =>
  (mX9_number u108 0 x109 (-1)).bind fun z111 => bd z111.1 fun x112 => bd z111.2 fun u113 =>
  (mX9_sign u113 59).bind fun u115 =>
  bd (wI u115 9 0 9 ((gI u115 9 0 9) + 1)) fun u116 =>
  if ((gI u116 9 0 6) = 0) then ((ck 6 (gI u116 9 0 15)).bind fun k118 =>
  ((if (2 ≤ x102) then (some x112)
  else ((ck 6 (gI u116 9 0 15)).bind fun k124 =>
  (ck 5 x102).bind fun k125 =>
  some ((gI u116 71 k124 k125) ||| ((1 : Int32) <<< (x112 &&& 31))))) : Option Int32).bind fun x119 =>
  (ck 5 x102).bind fun k121 =>
  bd (wI u116 71 k118 k121 x119) fun u122 =>
  some u122)
  else (some u116))
  else (some u105)
def mX9_task_L122  (w135 : HS → Option (Int32 × HS)) : Nat → HS → Option (Int32 × HS)
  | 0, _ => none
  | fu + 1, u133 =>
    if ((gI u133 9 0 6) = 0) then (if ((gI u133 9 0 2) ≤ (gI u133 9 0 4)) then (w135 u133)
    else ((mX9_taskClause u133).bind fun u142 =>
    (mX9_blanks u142).bind fun u144 =>
    mX9_task_L122  w135 fu u144))
    else (w135 u133)
def mX9_task (u0 : HS) (x1 : Int32) : Option (Int32 × HS) :=
  bd (wI u0 9 0 0 0) fun u101 =>
  (mX9_less (gI u101 9 0 1) 200).bind fun x103 =>
  (mX9_in x1 0 x103).bind fun x105 =>
  ((if (x105 = 0) then (some 1)
  else (some 0)) : Option Int32).bind fun x106 =>
  (mX9_bad u101 x106 1).bind fun z108 => bd z108.1 fun x109 => bd z108.2 fun u110 =>
  if (x109 = 0) then (((if ((gI u110 9 0 15) = 6) then (some 1)
  else (some 0)) : Option Int32).bind fun x112 =>
  (mX9_isRead u110 x1 x112).bind fun z114 => bd z114.1 fun x115 => bd z114.2 fun u116 =>
  if (x115 = 0) then (some ((-1), u116))
  else ((ck 6 (gI u116 9 0 15)).bind fun k118 =>
  (ck 5 0).bind fun k119 =>
  bd (wI u116 71 k118 k119 0) fun u120 =>
  (ck 6 (gI u120 9 0 15)).bind fun k121 =>
  (ck 5 1).bind fun k122 =>
  bd (wI u120 71 k121 k122 0) fun u123 =>
  (ck 6 (gI u123 9 0 15)).bind fun k124 =>
  (ck 5 2).bind fun k125 =>
  bd (wI u123 71 k124 k125 (-1)) fun u126 =>
  (ck 6 (gI u126 9 0 15)).bind fun k127 =>
  (ck 5 3).bind fun k128 =>
  bd (wI u126 71 k127 k128 4) fun u129 =>
  (ck 6 (gI u129 9 0 15)).bind fun k130 =>
  (ck 5 4).bind fun k131 =>
  bd (wI u129 71 k130 k131 0) fun u132 =>
  jp (fun (u134 : HS) =>
  ((bd (wI u134 9 0 3 (gI u134 9 0 7)) fun u136 =>
  if ((gI u136 9 0 6) = 0) then (bd (wI u136 9 0 15 ((gI u136 9 0 15) + 1)) fun u138 =>
  some ((gI u138 9 0 15) - 1, u138))
  else (some ((gI u136 9 0 6) - 10, u136))) : Option (Int32 × HS))) fun w135 => mX9_task_L122  w135 FU u132))
  else (some (0, u110))
def mX9_nameHere (u0 : HS) : Option (Int32 × HS) :=
  (mX9_isWord u0 12 9 11 5 0 0).bind fun z101 => bd z101.1 fun x102 => bd z101.2 fun u103 =>
  if (x102 = 0) then ((mX9_isWord u103 4 18 15 16 0 0).bind fun z105 => bd z105.1 fun x106 => bd z105.2 fun u107 =>
  if (x106 = 0) then ((mX9_isWord u107 14 5 1 18 0 0).bind fun z109 => bd z109.1 fun x110 => bd z109.2 fun u111 =>
  if (x110 = 0) then ((mX9_isWord u111 19 9 26 5 0 0).bind fun z113 => bd z113.1 fun x114 => bd z113.2 fun u115 =>
  if (x114 = 0) then ((mX9_isWord u115 16 1 3 5 0 0).bind fun z117 => bd z117.1 fun x118 => bd z117.2 fun u119 =>
  if (x118 = 0) then ((mX9_isWord u119 6 21 12 12 0 0).bind fun z121 => bd z121.1 fun x122 => bd z121.2 fun u123 =>
  if (x122 = 0) then ((mX9_isWord u123 15 4 4 0 0 0).bind fun z125 => bd z125.1 fun x126 => bd z125.2 fun u127 =>
  if (x126 = 0) then ((mX9_isWord u127 23 1 20 3 8 0).bind fun z129 => bd z129.1 fun x130 => bd z129.2 fun u131 =>
  if (x130 = 0) then ((mX9_isWord u131 3 8 1 14 7 5).bind fun z133 => bd z133.1 fun x134 => bd z133.2 fun u135 =>
  if (x134 = 0) then ((mX9_isWord u135 11 14 15 23 19 0).bind fun z137 => bd z137.1 fun x138 => bd z137.2 fun u139 =>
  if (x138 = 0) then ((mX9_isWord u139 20 5 14 20 8 0).bind fun z141 => bd z141.1 fun x142 => bd z141.2 fun u143 =>
  if (x142 = 0) then (some ((-1), u143))
  else (some (10, u143)))
  else (some (9, u139)))
  else (some (8, u135)))
  else (some (7, u131)))
  else (some (6, u127)))
  else (some (5, u123)))
  else (some (4, u119)))
  else (some (3, u115)))
  else (some (2, u111)))
  else (some (1, u107)))
  else (some (0, u103))
def mX9_lawHere (u0 : HS) : Option (Int32 × HS) :=
  (mX9_isWord u0 7 5 20 19 0 0).bind fun z101 => bd z101.1 fun x102 => bd z101.2 fun u103 =>
  if (x102 = 0) then ((mX9_isWord u103 12 9 14 5 0 0).bind fun z105 => bd z105.1 fun x106 => bd z105.2 fun u107 =>
  if (x106 = 0) then ((mX9_isWord u107 11 5 5 16 19 0).bind fun z109 => bd z109.1 fun x110 => bd z109.2 fun u111 =>
  if (x110 = 0) then ((mX9_isWord u111 19 21 18 5 0 0).bind fun z113 => bd z113.1 fun x114 => bd z113.2 fun u115 =>
  if (x114 = 0) then (some ((-1), u115))
  else (some (3, u115)))
  else (some (2, u111)))
  else (some (1, u107)))
  else (some (0, u103))
def mX9_fault (u0 : HS) : Option (Int32 × HS) :=
  bd (wI u0 9 0 0 0) fun u101 =>
  some (gI u101 9 0 3, u101)
def mX9_worked (x0 : Int32) (x1 : Int32) (x2 : Int32) : Option Int32 :=
  if (x0 = 10020) then (some (x1 + x2))
  else if (x0 = 10021) then (some (x1 - x2))
  else if (x0 = 10022) then (some (x1 * x2))
  else if (x0 = 10023) then (if (x2 = 0) then (some 0)
  else ((nz x2).bind fun _ =>
  some (x1 / x2)))
  else if (x0 = 10024) then (if (x2 ≤ x1) then (some x2)
  else (some x1))
  else if (x0 = 10025) then (if (x1 ≤ x2) then (some x2)
  else (some x1))
  else if (x0 = 10026) then (some (x1 ||| x2))
  else if (x0 = 10027) then (some (x1 ||| x2))
  else if (x0 = 10028) then (some (x1 ||| x2))
  else if (x0 = 10029) then (some (x1 ||| x2))
  else if (x0 = 10030) then (if (x2 ≤ x1) then (some 0)
  else (some 1))
  else if (x0 = 10031) then (if (x1 ≤ x2) then (some 0)
  else (some 1))
  else if (x0 = 10032) then (if (x1 = x2) then (some 1)
  else (some 0))
  else if (x0 = 10033) then (some (x1 ||| x2))
  else if (x0 = 10034) then (some (x1 &&& x2))
  else (some (x1 ||| x2))
def mX9_work_L6 (x3 : Int32) (x1 : Int32) (w105 : HS → Option (Int32 × HS)) : Nat → Int32 → Int32 → HS → Option (Int32 × HS)
  | 0, _, _, _ => none
  | fu + 1, x101, x102, u103 =>
    if (x3 ≤ x102) then (w105 u103)
    else ((ck 4 x1).bind fun k108 =>
    (ck 500 x102).bind fun k109 =>
    bd (gI u103 73 k108 k109) fun x110 =>
    jp (fun (x111 : Int32) (u112 : HS) =>
    ((bd (x102 + 1) fun x114 =>
    mX9_work_L6 x3 x1 w105 fu x111 x114 u112) : Option (Int32 × HS))) fun j113 =>
    if (10020 ≤ x110) then (if (x110 = 10033) then ((ck 150 (x101 - 1)).bind fun k124 =>
    (ck 150 (x101 - 1)).bind fun k125 =>
    bd (wI u103 78 0 k125 (1 - (gI u103 78 0 k124))) fun u126 =>
    j113 x101 u126)
    else (bd (x101 + (-1)) fun x117 =>
    (ck 150 (x117 - 1)).bind fun k118 =>
    (ck 150 x117).bind fun k119 =>
    (mX9_worked x110 (gI u103 78 0 k118) (gI u103 78 0 k119)).bind fun x121 =>
    (ck 150 (x117 - 1)).bind fun k122 =>
    bd (wI u103 78 0 k122 x121) fun u123 =>
    j113 x117 u123))
    else (((if (10000 ≤ x110) then ((ck 11 (x110 - 10000)).bind fun k133 =>
    some (gI u103 79 0 k133))
    else (some x110)) : Option Int32).bind fun x127 =>
    (ck 150 x101).bind fun k129 =>
    bd (wI u103 78 0 k129 x127) fun u130 =>
    bd (x101 + 1) fun x131 =>
    j113 x131 u130))
def mX9_work (u0 : HS) (x1 : Int32) (x2 : Int32) (x3 : Int32) : Option (Int32 × HS) :=
  jp (fun (u104 : HS) =>
  (((ck 150 0).bind fun k106 =>
  some (gI u104 78 0 k106, u104)) : Option (Int32 × HS))) fun w105 => mX9_work_L6 x3 x1 w105 FU 0 x2 u0
def mX9_holds (u0 : HS) (x1 : Int32) (i2 : Nat) : Option (Int32 × HS) :=
  (ck 4 3).bind fun k101 =>
  if ((gI u0 75 i2 k101) = (-1)) then (some (1, u0))
  else ((ck 4 2).bind fun k103 =>
  (ck 4 3).bind fun k104 =>
  (mX9_work u0 x1 (gI u0 75 i2 k103) (gI u0 75 i2 k104)).bind fun z105 => bd z105.1 fun x106 => bd z105.2 fun u107 =>
  if (x106 = 1) then (some (1, u107))
  else (some (0, u107)))
def mX9_lastOf_L7 (x1 : Int32) (x2 : Int32) (x3 : Int32) (x4 : Int32) (w106 : Int32 → HS → Option (Int32 × HS)) : Nat → Int32 → Int32 → HS → Option (Int32 × HS)
  | 0, _, _, _ => none
  | fu + 1, x101, x102, u103 =>
    (ck 4 x1).bind fun k107 =>
    if ((gI u103 76 0 k107) ≤ x102) then (w106 x101 u103)
    else ((ck 64 ((16 * x1) + x102)).bind fun k109 =>
    (ck 4 0).bind fun k110 =>
    jp (fun (x111 : Int32) (u112 : HS) =>
    ((bd (x102 + 1) fun x114 =>
    mX9_lastOf_L7 x1 x2 x3 x4 w106 fu x111 x114 u112) : Option (Int32 × HS))) fun j113 =>
    if ((gI u103 75 k109 k110) = x2) then ((mX9_holds u103 x1 k109).bind fun z116 => bd z116.1 fun x117 => bd z116.2 fun u118 =>
    if (x117 = 0) then (j113 x101 u118)
    else ((ck 4 1).bind fun k120 =>
    (ck 4 2).bind fun k121 =>
    (mX9_work u118 x1 (gI u118 75 k109 k120) (gI u118 75 k109 k121)).bind fun z122 => bd z122.1 fun x123 => bd z122.2 fun u124 =>
    (mX9_within x123 x3 x4).bind fun x126 =>
    j113 x126 u124))
    else (j113 x101 u103))
def mX9_lastOf (u0 : HS) (x1 : Int32) (x2 : Int32) (x3 : Int32) (x4 : Int32) (x5 : Int32) : Option (Int32 × HS) :=
  jp (fun (x104 : Int32) (u105 : HS) =>
  ((some (x104, u105)) : Option (Int32 × HS))) fun w106 => mX9_lastOf_L7 x1 x2 x3 x4 w106 FU x5 0 u0
def mX9_getsNow_L4 (x1 : Int32) (w106 : Int32 → HS → Option (Int32 × HS)) : Nat → Int32 → Int32 → HS → Option (Int32 × HS)
  | 0, _, _, _ => none
  | fu + 1, x101, x102, u103 =>
    (ck 4 x1).bind fun k109 =>
    if ((gI u103 76 0 k109) ≤ x102) then (w106 x101 u103)
    else ((ck 64 ((16 * x1) + x102)).bind fun k111 =>
    (ck 4 0).bind fun k112 =>
    jp (fun (x113 : Int32) (u114 : HS) =>
    ((bd (x102 + 1) fun x116 =>
    mX9_getsNow_L4 x1 w106 fu x113 x116 u114) : Option (Int32 × HS))) fun j115 =>
    if ((gI u103 75 k111 k112) = 0) then ((mX9_holds u103 x1 k111).bind fun z118 => bd z118.1 fun x119 => bd z118.2 fun u120 =>
    if (x119 = 0) then (j115 x101 u120)
    else ((ck 4 1).bind fun k122 =>
    (ck 4 2).bind fun k123 =>
    (mX9_work u120 x1 (gI u120 75 k111 k122) (gI u120 75 k111 k123)).bind fun z124 => bd z124.1 fun x125 => bd z124.2 fun u126 =>
    bd (x101 + x125) fun x127 =>
    j115 x127 u126))
    else (j115 x101 u103))
def mX9_getsNow (u0 : HS) (x1 : Int32) : Option (Int32 × HS) :=
  jp (fun (x104 : Int32) (u105 : HS) =>
  (((mX9_within x104 0 1000).bind fun x108 =>
  some (x108, u105)) : Option (Int32 × HS))) fun w106 => mX9_getsNow_L4 x1 w106 FU 0 0 u0
def mX9_isScene (u0 : HS) (x1 : Int32) : Option Int32 :=
  (mX9_in x1 0 ((gI u0 9 0 14) - 1)).bind fun x102 =>
  (zb x102).bind fun _ =>
  some x102
def mX9_isTask (u0 : HS) (x1 : Int32) : Option Int32 :=
  (mX9_in x1 0 ((gI u0 9 0 15) - 1)).bind fun x102 =>
  (zb x102).bind fun _ =>
  some x102
def mX9_isLaw (u0 : HS) (x1 : Int32) : Option Int32 :=
  (mX9_in x1 0 ((gI u0 9 0 16) - 1)).bind fun x102 =>
  (zb x102).bind fun _ =>
  some x102
def mX9_wayOf_L9 (x1 : Int32) (u0 : HS) (x2 : Int32) (x3 : Int32) (w105 : Int32 → Option Int32) : Nat → Int32 → Int32 → Option Int32
  | 0, _, _ => none
  | fu + 1, x102, x103 =>
    (ck 6 x1).bind fun k106 =>
    if (((24 * x1) + (gI u0 66 0 k106)) ≤ x103) then (w105 x102)
    else ((ck 144 x103).bind fun k108 =>
    (ck 8 0).bind fun k109 =>
    ((jp (((some x102) : Option Int32)) fun j113 =>
    if ((gI u0 65 k108 k109) = 1) then ((ck 144 x103).bind fun k115 =>
    (ck 8 1).bind fun k116 =>
    if ((gI u0 65 k115 k116) = x2) then ((ck 144 x103).bind fun k118 =>
    (ck 8 2).bind fun k119 =>
    (ck 144 x103).bind fun k120 =>
    (ck 8 5).bind fun k121 =>
    (mX9_in x3 (gI u0 65 k118 k119) (gI u0 65 k120 k121)).bind fun x123 =>
    if (x123 = 0) then (j113)
    else (some x103))
    else (j113))
    else (j113)) : Option Int32).bind fun x110 =>
    bd (x103 + 1) fun x112 =>
    mX9_wayOf_L9 x1 u0 x2 x3 w105 fu x110 x112)
def mX9_wayOf (u0 : HS) (x1 : Int32) (x2 : Int32) (x3 : Int32) : Option Int32 :=
  bd (24 * x1) fun x101 =>
  jp (fun (x104 : Int32) =>
  ((some x104) : Option Int32)) fun w105 => mX9_wayOf_L9 x1 u0 x2 x3 w105 FU (-1) x101
def mX9_placeOf (u0 : HS) (x1 : Int32) (x2 : Int32) (x3 : Int32) (x4 : Int32) : Option Int32 :=
  (mX9_wayOf u0 x1 x2 x3).bind fun x102 =>
  if (x102 = (-1)) then (some (-1))
  else ((ck 144 x102).bind fun k104 =>
  (ck 8 2).bind fun k105 =>
  (ck 8 5).bind fun k106 =>
  if ((gI u0 65 k104 k105) = (gI u0 65 k104 k106)) then ((ck 8 (3 + x4)).bind fun k115 =>
  some (gI u0 65 k104 k115))
  else ((ck 8 (3 + x4)).bind fun k108 =>
  (ck 8 (6 + x4)).bind fun k109 =>
  (ck 8 (3 + x4)).bind fun k110 =>
  (ck 8 2).bind fun k111 =>
  (ck 8 5).bind fun k112 =>
  (ck 8 2).bind fun k113 =>
  (nz ((gI u0 65 k104 k112) - (gI u0 65 k104 k113))).bind fun _ =>
  some ((gI u0 65 k104 k108) + ((((gI u0 65 k104 k109) - (gI u0 65 k104 k110)) * (x3 - (gI u0 65 k104 k111))) / ((gI u0 65 k104 k112) - (gI u0 65 k104 k113))))))
def mX9_isThere (u0 : HS) (x1 : Int32) (x2 : Int32) (x3 : Int32) : Option Int32 :=
  (mX9_wayOf u0 x1 x2 x3).bind fun x102 =>
  if (x102 = (-1)) then (some 0)
  else (some 1)
def mX9_paceOf (u0 : HS) (x1 : Int32) (x2 : Int32) (x3 : Int32) : Option Int32 :=
  if (x3 = 0) then (some 0)
  else ((mX9_isThere u0 x1 x2 x3).bind fun x103 =>
  if (x103 = 0) then (some 0)
  else ((mX9_isThere u0 x1 x2 (x3 - 1)).bind fun x106 =>
  if (x106 = 0) then (some 0)
  else ((mX9_placeOf u0 x1 x2 x3 0).bind fun x109 =>
  (mX9_placeOf u0 x1 x2 (x3 - 1) 0).bind fun x111 =>
  (mX9_amount (x109 - x111)).bind fun x113 =>
  (mX9_placeOf u0 x1 x2 x3 1).bind fun x115 =>
  (mX9_placeOf u0 x1 x2 (x3 - 1) 1).bind fun x117 =>
  (mX9_amount (x115 - x117)).bind fun x119 =>
  (mX9_more x113 x119).bind fun x121 =>
  some x121)))
def mX9_colourOf_L9 (x1 : Int32) (u0 : HS) (x2 : Int32) (x3 : Int32) (w105 : Int32 → Option Int32) : Nat → Int32 → Int32 → Option Int32
  | 0, _, _ => none
  | fu + 1, x102, x103 =>
    (ck 6 x1).bind fun k111 =>
    if (((24 * x1) + (gI u0 66 0 k111)) ≤ x103) then (w105 x102)
    else ((ck 144 x103).bind fun k113 =>
    (ck 8 0).bind fun k114 =>
    ((if ((gI u0 65 k113 k114) = 4) then ((ck 144 x103).bind fun k119 =>
    (ck 8 1).bind fun k120 =>
    if ((gI u0 65 k119 k120) = x2) then ((ck 144 x103).bind fun k122 =>
    (ck 8 2).bind fun k123 =>
    if (x3 < (gI u0 65 k122 k123)) then (some x102)
    else (jp (((some x103) : Option Int32)) fun j125 =>
    if (x102 = (-1)) then (j125)
    else ((ck 144 x103).bind fun k127 =>
    (ck 8 2).bind fun k128 =>
    (ck 144 x102).bind fun k129 =>
    (ck 8 2).bind fun k130 =>
    if ((gI u0 65 k127 k128) < (gI u0 65 k129 k130)) then (some x102)
    else (j125))))
    else (some x102))
    else (some x102)) : Option Int32).bind fun x115 =>
    bd (x103 + 1) fun x117 =>
    mX9_colourOf_L9 x1 u0 x2 x3 w105 fu x115 x117)
def mX9_colourOf (u0 : HS) (x1 : Int32) (x2 : Int32) (x3 : Int32) : Option Int32 :=
  bd (24 * x1) fun x101 =>
  jp (fun (x104 : Int32) =>
  ((if (x104 = (-1)) then ((ck 48 ((8 * x1) + x2)).bind fun k109 =>
  (ck 2 0).bind fun k110 =>
  some (gI u0 69 k109 k110))
  else ((ck 144 x104).bind fun k107 =>
  (ck 8 3).bind fun k108 =>
  some (gI u0 65 k107 k108))) : Option Int32)) fun w105 => mX9_colourOf_L9 x1 u0 x2 x3 w105 FU (-1) x101
def mX9_isChanged_L6 (x1 : Int32) (u0 : HS) (x2 : Int32) (x3 : Int32) (w103 : Option Int32) : Nat → Int32 → Option Int32
  | 0, _ => none
  | fu + 1, x102 =>
    (ck 6 x1).bind fun k104 =>
    if (((24 * x1) + (gI u0 66 0 k104)) ≤ x102) then (w103)
    else ((ck 144 x102).bind fun k106 =>
    (ck 8 0).bind fun k107 =>
    jp (((bd (x102 + 1) fun x109 =>
    mX9_isChanged_L6 x1 u0 x2 x3 w103 fu x109) : Option Int32)) fun j108 =>
    if ((gI u0 65 k106 k107) = 4) then ((ck 144 x102).bind fun k111 =>
    (ck 8 1).bind fun k112 =>
    if ((gI u0 65 k111 k112) = x2) then ((ck 144 x102).bind fun k114 =>
    (ck 8 2).bind fun k115 =>
    (mX9_in (gI u0 65 k114 k115) (x3 - 9) x3).bind fun x117 =>
    if (x117 = 0) then (j108)
    else (some 1))
    else (j108))
    else (j108))
def mX9_isChanged (u0 : HS) (x1 : Int32) (x2 : Int32) (x3 : Int32) : Option Int32 :=
  bd (24 * x1) fun x101 =>
  jp (((some 0) : Option Int32)) fun w103 => mX9_isChanged_L6 x1 u0 x2 x3 w103 FU x101
def mX9_countOf_L8 (x1 : Int32) (u0 : HS) (x2 : Int32) (w105 : Int32 → Option Int32) : Nat → Int32 → Int32 → Option Int32
  | 0, _, _ => none
  | fu + 1, x102, x103 =>
    (ck 6 x1).bind fun k106 =>
    if (((24 * x1) + (gI u0 66 0 k106)) ≤ x103) then (w105 x102)
    else ((ck 144 x103).bind fun k108 =>
    (ck 8 0).bind fun k109 =>
    ((if ((gI u0 65 k108 k109) = x2) then (some 1)
    else (some 0)) : Option Int32).bind fun x110 =>
    bd (x102 + x110) fun x112 =>
    bd (x103 + 1) fun x113 =>
    mX9_countOf_L8 x1 u0 x2 w105 fu x112 x113)
def mX9_countOf (u0 : HS) (x1 : Int32) (x2 : Int32) : Option Int32 :=
  bd (24 * x1) fun x101 =>
  jp (fun (x104 : Int32) =>
  ((some x104) : Option Int32)) fun w105 => mX9_countOf_L8 x1 u0 x2 w105 FU 0 x101
def mX9_endOf_L7 (x1 : Int32) (u0 : HS) (w105 : Int32 → Option Int32) : Nat → Int32 → Int32 → Option Int32
  | 0, _, _ => none
  | fu + 1, x102, x103 =>
    (ck 6 x1).bind fun k106 =>
    if (((24 * x1) + (gI u0 66 0 k106)) ≤ x103) then (w105 x102)
    else ((ck 144 x103).bind fun k108 =>
    (ck 8 0).bind fun k109 =>
    ((if ((gI u0 65 k108 k109) = 1) then ((ck 144 x103).bind fun k114 =>
    (ck 8 5).bind fun k115 =>
    (mX9_more x102 (gI u0 65 k114 k115)).bind fun x117 =>
    some x117)
    else (some x102)) : Option Int32).bind fun x110 =>
    bd (x103 + 1) fun x112 =>
    mX9_endOf_L7 x1 u0 w105 fu x110 x112)
def mX9_endOf (u0 : HS) (x1 : Int32) : Option Int32 :=
  bd (24 * x1) fun x101 =>
  jp (fun (x104 : Int32) =>
  ((some x104) : Option Int32)) fun w105 => mX9_endOf_L7 x1 u0 w105 FU 0 x101
def mX9_oddOf_L7 (x1 : Int32) (u0 : HS) (w105 : Int32 → Option Int32) : Nat → Int32 → Int32 → Option Int32
  | 0, _, _ => none
  | fu + 1, x102, x103 =>
    (ck 6 x1).bind fun k106 =>
    if (((24 * x1) + (gI u0 66 0 k106)) ≤ x103) then (w105 x102)
    else ((ck 144 x103).bind fun k108 =>
    (ck 8 0).bind fun k109 =>
    ((if ((gI u0 65 k108 k109) = 3) then ((ck 144 x103).bind fun k114 =>
    (ck 8 1).bind fun k115 =>
    some (gI u0 65 k114 k115))
    else (some x102)) : Option Int32).bind fun x110 =>
    bd (x103 + 1) fun x112 =>
    mX9_oddOf_L7 x1 u0 w105 fu x110 x112)
def mX9_oddOf (u0 : HS) (x1 : Int32) : Option Int32 :=
  bd (24 * x1) fun x101 =>
  jp (fun (x104 : Int32) =>
  ((some x104) : Option Int32)) fun w105 => mX9_oddOf_L7 x1 u0 w105 FU (-1) x101
def mX9_turnsOf_L5 (x1 : Int32) (u0 : HS) (w103 : Option Int32) : Nat → Int32 → Option Int32
  | 0, _ => none
  | fu + 1, x102 =>
    (ck 6 x1).bind fun k104 =>
    if (((24 * x1) + (gI u0 66 0 k104)) ≤ x102) then (w103)
    else ((ck 144 x102).bind fun k106 =>
    (ck 8 0).bind fun k107 =>
    if ((gI u0 65 k106 k107) = 4) then ((ck 144 x102).bind fun k110 =>
    (ck 8 1).bind fun k111 =>
    some (gI u0 65 k110 k111))
    else (bd (x102 + 1) fun x109 =>
    mX9_turnsOf_L5 x1 u0 w103 fu x109))
def mX9_turnsOf (u0 : HS) (x1 : Int32) : Option Int32 :=
  bd (24 * x1) fun x101 =>
  jp (((some (-1)) : Option Int32)) fun w103 => mX9_turnsOf_L5 x1 u0 w103 FU x101
def mX9_told (u0 : HS) (x1 : Int32) (x2 : Int32) : Option (Int32 × HS) :=
  bd (wI u0 9 0 0 0) fun u101 =>
  (mX9_isScene u101 x1).bind fun x103 =>
  ((if (x103 = 0) then (some 1)
  else (some 0)) : Option Int32).bind fun x104 =>
  (mX9_bad u101 x104 1).bind fun z106 => bd z106.1 fun x107 => bd z106.2 fun u108 =>
  if (x107 = 0) then ((mX9_in x2 0 5).bind fun x111 =>
  ((if (x111 = 0) then (some 1)
  else (some 0)) : Option Int32).bind fun x112 =>
  (mX9_bad u108 x112 2).bind fun z114 => bd z114.1 fun x115 => bd z114.2 fun u116 =>
  if (x115 = 0) then (if (x2 = 0) then ((ck 6 x1).bind fun k130 =>
  some (gI u116 67 0 k130, u116))
  else (if (3 ≤ x2) then (if (x2 = 3) then ((mX9_endOf u116 x1).bind fun x127 =>
  some (x127, u116))
  else (if (x2 = 4) then ((mX9_oddOf u116 x1).bind fun x125 =>
  some (x125, u116))
  else ((mX9_turnsOf u116 x1).bind fun x123 =>
  some (x123, u116))))
  else ((mX9_countOf u116 x1 x2).bind fun x129 =>
  some (x129, u116))))
  else (some (0, u116)))
  else (some (0, u108))
def mX9_thing (u0 : HS) (x1 : Int32) (x2 : Int32) (x3 : Int32) (x4 : Int32) : Option (Int32 × HS) :=
  bd (wI u0 9 0 0 0) fun u101 =>
  (mX9_isScene u101 x1).bind fun x103 =>
  ((if (x103 = 0) then (some 1)
  else (some 0)) : Option Int32).bind fun x104 =>
  (mX9_bad u101 x104 1).bind fun z106 => bd z106.1 fun x107 => bd z106.2 fun u108 =>
  if (x107 = 0) then ((ck 6 x1).bind fun k110 =>
  (mX9_in x2 0 ((gI u108 67 0 k110) - 1)).bind fun x112 =>
  ((jp (((some 1) : Option Int32)) fun j137 =>
  if (x112 = 0) then (j137)
  else ((mX9_in x3 0 299).bind fun x140 =>
  if (x140 = 0) then (j137)
  else ((mX9_in x4 0 5).bind fun x143 =>
  if (x143 = 0) then (j137)
  else (some 0)))) : Option Int32).bind fun x113 =>
  (mX9_bad u108 x113 2).bind fun z115 => bd z115.1 fun x116 => bd z115.2 fun u117 =>
  if (x116 = 0) then (if (x4 = 0) then ((mX9_placeOf u117 x1 x2 x3 x4).bind fun x121 =>
  some (x121, u117))
  else if (x4 = 1) then ((mX9_placeOf u117 x1 x2 x3 x4).bind fun x124 =>
  some (x124, u117))
  else if (x4 = 2) then ((mX9_colourOf u117 x1 x2 x3).bind fun x127 =>
  some (x127, u117))
  else if (x4 = 3) then ((mX9_paceOf u117 x1 x2 x3).bind fun x130 =>
  some (x130, u117))
  else if (x4 = 4) then ((ck 48 ((8 * x1) + x2)).bind fun k132 =>
  (ck 2 1).bind fun k133 =>
  some (gI u117 69 k132 k133, u117))
  else ((mX9_isChanged u117 x1 x2 x3).bind fun x135 =>
  if (x135 = 0) then (some (0, u117))
  else (some (1, u117))))
  else (some (0, u117)))
  else (some (0, u108))
def mX9_kept (u0 : HS) (x1 : Int32) (x2 : Int32) : Option (Int32 × HS) :=
  bd (wI u0 9 0 0 0) fun u101 =>
  (mX9_isTask u101 x1).bind fun x103 =>
  ((if (x103 = 0) then (some 1)
  else (some 0)) : Option Int32).bind fun x104 =>
  (mX9_bad u101 x104 1).bind fun z106 => bd z106.1 fun x107 => bd z106.2 fun u108 =>
  if (x107 = 0) then ((mX9_in x2 0 4).bind fun x111 =>
  ((if (x111 = 0) then (some 1)
  else (some 0)) : Option Int32).bind fun x112 =>
  (mX9_bad u108 x112 2).bind fun z114 => bd z114.1 fun x115 => bd z114.2 fun u116 =>
  if (x115 = 0) then ((ck 6 x1).bind fun k118 =>
  (ck 5 x2).bind fun k119 =>
  some (gI u116 71 k118 k119, u116))
  else (some (0, u116)))
  else (some (0, u108))
def mX9_isCounted (u0 : HS) (x1 : Int32) (x2 : Int32) (i3 : Nat) : Option Int32 :=
  (ck 8 0).bind fun k101 =>
  if ((gI u0 65 i3 k101) = 2) then ((ck 6 x2).bind fun k103 =>
  (ck 5 2).bind fun k104 =>
  if ((gI u0 71 k103 k104) = (-1)) then (some 0)
  else ((ck 8 1).bind fun k106 =>
  (ck 8 3).bind fun k107 =>
  (mX9_colourOf u0 x1 (gI u0 65 i3 k106) (gI u0 65 i3 k107)).bind fun x109 =>
  (ck 6 x2).bind fun k110 =>
  (ck 5 2).bind fun k111 =>
  if (x109 = (gI u0 71 k110 k111)) then (some 1)
  else (some 0)))
  else (some 0)
def mX9_throwsBy_L8 (x1 : Int32) (u0 : HS) (x2 : Int32) (w105 : Int32 → Option Int32) : Nat → Int32 → Int32 → Option Int32
  | 0, _, _ => none
  | fu + 1, x102, x103 =>
    (ck 6 x1).bind fun k106 =>
    if (((24 * x1) + (gI u0 66 0 k106)) ≤ x103) then (w105 x102)
    else ((ck 144 x103).bind fun k108 =>
    (mX9_isCounted u0 x1 x2 k108).bind fun x110 =>
    ((if (x110 = 0) then (some 0)
    else (some 1)) : Option Int32).bind fun x111 =>
    bd (x102 + x111) fun x113 =>
    bd (x103 + 1) fun x114 =>
    mX9_throwsBy_L8 x1 u0 x2 w105 fu x113 x114)
def mX9_throwsBy (u0 : HS) (x1 : Int32) (x2 : Int32) : Option Int32 :=
  bd (24 * x1) fun x101 =>
  jp (fun (x104 : Int32) =>
  ((some x104) : Option Int32)) fun w105 => mX9_throwsBy_L8 x1 u0 x2 w105 FU 0 x101
def mX9_throwsOf (u0 : HS) (x1 : Int32) (x2 : Int32) : Option (Int32 × HS) :=
  bd (wI u0 9 0 0 0) fun u101 =>
  (mX9_isScene u101 x1).bind fun x103 =>
  ((if (x103 = 0) then (some 1)
  else (some 0)) : Option Int32).bind fun x104 =>
  (mX9_bad u101 x104 1).bind fun z106 => bd z106.1 fun x107 => bd z106.2 fun u108 =>
  if (x107 = 0) then ((mX9_isTask u108 x2).bind fun x111 =>
  ((if (x111 = 0) then (some 1)
  else (some 0)) : Option Int32).bind fun x112 =>
  (mX9_bad u108 x112 2).bind fun z114 => bd z114.1 fun x115 => bd z114.2 fun u116 =>
  if (x115 = 0) then ((mX9_throwsBy u116 x1 x2).bind fun x119 =>
  some (x119, u116))
  else (some (0, u116)))
  else (some (0, u108))
def mX9_comes_L39 (x1 : Int32) (w115 : HS → Option HS) : Nat → Int32 → HS → Option HS
  | 0, _, _ => none
  | fu + 1, x112, u113 =>
    if (8 ≤ x112) then (w115 u113)
    else ((ck 15 x1).bind fun k117 =>
    (ck 8 x112).bind fun k118 =>
    bd (wI u113 81 k117 k118 (-1)) fun u119 =>
    bd (x112 + 1) fun x120 =>
    mX9_comes_L39 x1 w115 fu x120 u119)
def mX9_comes (u0 : HS) (x1 : Int32) (x2 : Int32) (x3 : Int32) (x4 : Int32) : Option HS :=
  (ck 15 x1).bind fun k101 =>
  (ck 8 0).bind fun k102 =>
  bd (wI u0 81 k101 k102 x2) fun u103 =>
  (ck 15 x1).bind fun k104 =>
  (ck 8 1).bind fun k105 =>
  bd (wI u103 81 k104 k105 x3) fun u106 =>
  (ck 15 x1).bind fun k107 =>
  ((if (x4 = 0) then (some 0)
  else (some 1)) : Option Int32).bind fun x108 =>
  (ck 8 2).bind fun k110 =>
  bd (wI u106 81 k107 k110 x108) fun u111 =>
  jp (fun (u114 : HS) =>
  ((some u114) : Option HS)) fun w115 => mX9_comes_L39 x1 w115 FU 3 u111
def mX9_looker (u0 : HS) (x1 : Int32) (x2 : Int32) (x3 : Int32) : Option (Int32 × HS) :=
  bd (wI u0 9 0 0 0) fun u101 =>
  (mX9_isScene u101 x1).bind fun x103 =>
  ((if (x103 = 0) then (some 1)
  else (some 0)) : Option Int32).bind fun x104 =>
  (mX9_bad u101 x104 1).bind fun z106 => bd z106.1 fun x107 => bd z106.2 fun u108 =>
  if (x107 = 0) then ((mX9_isTask u108 x2).bind fun x111 =>
  ((if (x111 = 0) then (some 1)
  else (some 0)) : Option Int32).bind fun x112 =>
  (mX9_bad u108 x112 2).bind fun z114 => bd z114.1 fun x115 => bd z114.2 fun u116 =>
  if (x115 = 0) then (if ((gI u116 9 0 28) = 14) then (some ((-1), u116))
  else ((mX9_comes u116 (gI u116 9 0 28) x1 x2 x3).bind fun u120 =>
  bd (wI u120 9 0 28 ((gI u120 9 0 28) + 1)) fun u121 =>
  some ((gI u121 9 0 28) - 1, u121)))
  else (some (0, u116)))
  else (some (0, u108))
def mX9_isLooker (u0 : HS) (x1 : Int32) : Option Int32 :=
  (mX9_in x1 0 ((gI u0 9 0 28) - 1)).bind fun x102 =>
  (zb x102).bind fun _ =>
  some x102
def mX9_eyes (u0 : HS) (x1 : Int32) (x2 : Int32) (x3 : Int32) (x4 : Int32) : Option (Int32 × HS) :=
  bd (wI u0 9 0 0 0) fun u101 =>
  (mX9_isLooker u101 x1).bind fun x103 =>
  ((jp (((some 1) : Option Int32)) fun j124 =>
  if (x103 = 0) then (j124)
  else ((mX9_in x2 0 299).bind fun x127 =>
  if (x127 = 0) then (j124)
  else ((mX9_in x3 0 39).bind fun x130 =>
  if (x130 = 0) then (j124)
  else ((mX9_in x4 0 29).bind fun x133 =>
  if (x133 = 0) then (j124)
  else (some 0))))) : Option Int32).bind fun x104 =>
  (mX9_bad u101 x104 1).bind fun z106 => bd z106.1 fun x107 => bd z106.2 fun u108 =>
  if (x107 = 0) then (if ((gI u108 9 0 29) = 60) then (some ((-1), u108))
  else ((ck 60 (gI u108 9 0 29)).bind fun k111 =>
  (ck 4 0).bind fun k112 =>
  bd (wI u108 83 k111 k112 x1) fun u113 =>
  (ck 60 (gI u113 9 0 29)).bind fun k114 =>
  (ck 4 1).bind fun k115 =>
  bd (wI u113 83 k114 k115 x2) fun u116 =>
  (ck 60 (gI u116 9 0 29)).bind fun k117 =>
  (ck 4 2).bind fun k118 =>
  bd (wI u116 83 k117 k118 x3) fun u119 =>
  (ck 60 (gI u119 9 0 29)).bind fun k120 =>
  (ck 4 3).bind fun k121 =>
  bd (wI u119 83 k120 k121 x4) fun u122 =>
  bd (wI u122 9 0 29 ((gI u122 9 0 29) + 1)) fun u123 =>
  some (gI u123 9 0 29, u123)))
  else (some (0, u108))
def mX9_blink (u0 : HS) (x1 : Int32) (x2 : Int32) (x3 : Int32) : Option (Int32 × HS) :=
  bd (wI u0 9 0 0 0) fun u101 =>
  (mX9_isLooker u101 x1).bind fun x103 =>
  ((jp (((some 1) : Option Int32)) fun j121 =>
  if (x103 = 0) then (j121)
  else ((mX9_in x2 0 299).bind fun x124 =>
  if (x124 = 0) then (j121)
  else ((mX9_in x3 x2 299).bind fun x127 =>
  if (x127 = 0) then (j121)
  else (some 0)))) : Option Int32).bind fun x104 =>
  (mX9_bad u101 x104 1).bind fun z106 => bd z106.1 fun x107 => bd z106.2 fun u108 =>
  if (x107 = 0) then (if ((gI u108 9 0 30) = 40) then (some ((-1), u108))
  else ((ck 40 (gI u108 9 0 30)).bind fun k111 =>
  (ck 3 0).bind fun k112 =>
  bd (wI u108 85 k111 k112 x1) fun u113 =>
  (ck 40 (gI u113 9 0 30)).bind fun k114 =>
  (ck 3 1).bind fun k115 =>
  bd (wI u113 85 k114 k115 x2) fun u116 =>
  (ck 40 (gI u116 9 0 30)).bind fun k117 =>
  (ck 3 2).bind fun k118 =>
  bd (wI u116 85 k117 k118 x3) fun u119 =>
  bd (wI u119 9 0 30 ((gI u119 9 0 30) + 1)) fun u120 =>
  some (gI u120 9 0 30, u120)))
  else (some (0, u108))
def mX9_isShut_L2 (u0 : HS) (x1 : Int32) (x2 : Int32) (w102 : Option Int32) : Nat → Int32 → Option Int32
  | 0, _ => none
  | fu + 1, x101 =>
    if ((gI u0 9 0 30) ≤ x101) then (w102)
    else ((ck 40 x101).bind fun k104 =>
    (ck 3 0).bind fun k105 =>
    jp (((bd (x101 + 1) fun x107 =>
    mX9_isShut_L2 u0 x1 x2 w102 fu x107) : Option Int32)) fun j106 =>
    if ((gI u0 85 k104 k105) = x1) then ((ck 40 x101).bind fun k109 =>
    (ck 3 1).bind fun k110 =>
    (ck 40 x101).bind fun k111 =>
    (ck 3 2).bind fun k112 =>
    (mX9_in x2 (gI u0 85 k109 k110) (gI u0 85 k111 k112)).bind fun x114 =>
    if (x114 = 0) then (j106)
    else (some 1))
    else (j106))
def mX9_isShut (u0 : HS) (x1 : Int32) (x2 : Int32) : Option Int32 :=
  jp (((some 0) : Option Int32)) fun w102 => mX9_isShut_L2 u0 x1 x2 w102 FU 0
def mX9_looks_L120 (x103 : Int32) (u0 : HS) (x1 : Int32) (x2 : Int32) (w113 : Int32 → Option Int32) : Nat → Int32 → Int32 → Option Int32
  | 0, _, _ => none
  | fu + 1, x110, x111 =>
    (ck 6 x103).bind fun k129 =>
    if (((24 * x103) + (gI u0 66 0 k129)) ≤ x111) then (w113 x110)
    else ((ck 15 x1).bind fun k131 =>
    (ck 8 1).bind fun k132 =>
    (ck 144 x111).bind fun k133 =>
    (mX9_isCounted u0 x103 (gI u0 81 k131 k132) k133).bind fun x135 =>
    ((if (x135 = 0) then (some x110)
    else ((ck 144 x111).bind fun k140 =>
    (ck 8 3).bind fun k141 =>
    if (x2 < (gI u0 65 k140 k141)) then (some x110)
    else (jp (((some x111) : Option Int32)) fun j143 =>
    if (x110 = (-1)) then (j143)
    else ((ck 144 x111).bind fun k145 =>
    (ck 8 3).bind fun k146 =>
    (ck 144 x110).bind fun k147 =>
    (ck 8 3).bind fun k148 =>
    if ((gI u0 65 k145 k146) < (gI u0 65 k147 k148)) then (some x110)
    else (j143))))) : Option Int32).bind fun x136 =>
    bd (x111 + 1) fun x138 =>
    mX9_looks_L120 x103 u0 x1 x2 w113 fu x136 x138)
def mX9_looks_L18 (u0 : HS) (x1 : Int32) (x2 : Int32) (w107 : Int32 → Option Int32) : Nat → Int32 → Int32 → Option Int32
  | 0, _, _ => none
  | fu + 1, x104, x105 =>
    if ((gI u0 9 0 29) ≤ x105) then (w107 x104)
    else ((ck 60 x105).bind fun k155 =>
    (ck 4 0).bind fun k156 =>
    ((if ((gI u0 83 k155 k156) = x1) then ((ck 60 x105).bind fun k161 =>
    (ck 4 1).bind fun k162 =>
    if (x2 < (gI u0 83 k161 k162)) then (some x104)
    else (jp (((some x105) : Option Int32)) fun j164 =>
    if (x104 = (-1)) then (j164)
    else ((ck 60 x105).bind fun k166 =>
    (ck 4 1).bind fun k167 =>
    (ck 60 x104).bind fun k168 =>
    (ck 4 1).bind fun k169 =>
    if ((gI u0 83 k166 k167) < (gI u0 83 k168 k169)) then (some x104)
    else (j164))))
    else (some x104)) : Option Int32).bind fun x157 =>
    bd (x105 + 1) fun x159 =>
    mX9_looks_L18 u0 x1 x2 w107 fu x157 x159)
def mX9_looks (u0 : HS) (x1 : Int32) (x2 : Int32) : Option Int32 :=
  (ck 15 x1).bind fun k101 =>
  (ck 8 0).bind fun k102 =>
  bd (gI u0 81 k101 k102) fun x103 =>
  jp (fun (x106 : Int32) =>
  ((if (x106 = (-1)) then (bd (24 * x103) fun x109 =>
  jp (fun (x112 : Int32) =>
  ((jp (((some 2015) : Option Int32)) fun j114 =>
  if (x112 = (-1)) then (j114)
  else ((ck 144 x112).bind fun k116 =>
  (ck 8 2).bind fun k117 =>
  (mX9_isThere u0 x103 (gI u0 65 k116 k117) x2).bind fun x119 =>
  if (x119 = 0) then (j114)
  else ((ck 144 x112).bind fun k121 =>
  (ck 8 2).bind fun k122 =>
  (mX9_placeOf u0 x103 (gI u0 65 k121 k122) x2 0).bind fun x124 =>
  (ck 144 x112).bind fun k125 =>
  (ck 8 2).bind fun k126 =>
  (mX9_placeOf u0 x103 (gI u0 65 k125 k126) x2 1).bind fun x128 =>
  some ((100 * x124) + x128)))) : Option Int32)) fun w113 => mX9_looks_L120 x103 u0 x1 x2 w113 FU (-1) x109)
  else ((ck 60 x106).bind fun k150 =>
  (ck 4 2).bind fun k151 =>
  (ck 60 x106).bind fun k152 =>
  (ck 4 3).bind fun k153 =>
  some ((100 * (gI u0 83 k150 k151)) + (gI u0 83 k152 k153)))) : Option Int32)) fun w107 => mX9_looks_L18 u0 x1 x2 w107 FU (-1) 0
def mX9_eyeOf (u0 : HS) (x1 : Int32) (x2 : Int32) : Option Int32 :=
  (mX9_isShut u0 x1 x2).bind fun x102 =>
  if (x102 = 0) then ((mX9_looks u0 x1 x2).bind fun x105 =>
  some x105)
  else (some (-1))
def mX9_eye (u0 : HS) (x1 : Int32) (x2 : Int32) : Option (Int32 × HS) :=
  bd (wI u0 9 0 0 0) fun u101 =>
  (mX9_isLooker u101 x1).bind fun x103 =>
  ((jp (((some 1) : Option Int32)) fun j112 =>
  if (x103 = 0) then (j112)
  else ((mX9_in x2 0 299).bind fun x115 =>
  if (x115 = 0) then (j112)
  else (some 0))) : Option Int32).bind fun x104 =>
  (mX9_bad u101 x104 1).bind fun z106 => bd z106.1 fun x107 => bd z106.2 fun u108 =>
  if (x107 = 0) then ((mX9_eyeOf u108 x1 x2).bind fun x111 =>
  some (x111, u108))
  else (some (0, u108))
def mX9_nearOf (u0 : HS) (x1 : Int32) (x2 : Int32) (x3 : Int32) : Option Int32 :=
  (ck 15 x1).bind fun k101 =>
  (ck 8 0).bind fun k102 =>
  bd (gI u0 81 k101 k102) fun x103 =>
  (mX9_eyeOf u0 x1 x3).bind fun x105 =>
  if (x105 = (-1)) then (some 99)
  else ((mX9_isThere u0 x103 x2 x3).bind fun x108 =>
  if (x108 = 0) then (some 99)
  else ((mX9_placeOf u0 x103 x2 x3 0).bind fun x111 =>
  (mX9_amount (x111 - (x105 / 100))).bind fun x113 =>
  (mX9_placeOf u0 x103 x2 x3 1).bind fun x115 =>
  (mX9_amount (x115 - (x105 - x105 / 100 * 100))).bind fun x117 =>
  (mX9_more 0 (x113 - (gI u0 9 0 39))).bind fun x119 =>
  (mX9_more x119 x117).bind fun x121 =>
  some x121))
def mX9_fullOf_L15 (x103 : Int32) (u0 : HS) (x2 : Int32) (x1 : Int32) (w107 : Int32 → Option Int32) : Nat → Int32 → Int32 → Option Int32
  | 0, _, _ => none
  | fu + 1, x104, x105 =>
    (ck 6 x103).bind fun k114 =>
    if ((gI u0 67 0 k114) ≤ x105) then (w107 x104)
    else ((mX9_isThere u0 x103 x105 x2).bind fun x117 =>
    ((jp (((some 0) : Option Int32)) fun j122 =>
    if (x117 = 0) then (j122)
    else ((ck 15 x1).bind fun k124 =>
    (ck 8 1).bind fun k125 =>
    (ck 6 (gI u0 81 k124 k125)).bind fun k126 =>
    (ck 5 0).bind fun k127 =>
    (mX9_colourOf u0 x103 x105 x2).bind fun x129 =>
    if ((((gI u0 71 k126 k127) >>> (x129 &&& 31)) &&& 1) = 1) then (some 1)
    else (j122))) : Option Int32).bind fun x118 =>
    bd (x104 + x118) fun x120 =>
    bd (x105 + 1) fun x121 =>
    mX9_fullOf_L15 x103 u0 x2 x1 w107 fu x120 x121)
def mX9_fullOf (u0 : HS) (x1 : Int32) (x2 : Int32) : Option Int32 :=
  (ck 15 x1).bind fun k101 =>
  (ck 8 0).bind fun k102 =>
  bd (gI u0 81 k101 k102) fun x103 =>
  jp (fun (x106 : Int32) =>
  (((ck 15 x1).bind fun k108 =>
  (ck 8 1).bind fun k109 =>
  (ck 6 (gI u0 81 k108 k109)).bind fun k110 =>
  (ck 5 3).bind fun k111 =>
  (mX9_more 0 (x106 - (gI u0 71 k110 k111))).bind fun x113 =>
  some x113) : Option Int32)) fun w107 => mX9_fullOf_L15 x103 u0 x2 x1 w107 FU 0 0
def mX9_tellsNames (u0 : HS) (x1 : Int32) (x2 : Int32) (x3 : Int32) : Option HS :=
  (ck 15 x1).bind fun k101 =>
  (ck 8 0).bind fun k102 =>
  bd (gI u0 81 k101 k102) fun x103 =>
  (ck 15 x1).bind fun k104 =>
  (ck 8 1).bind fun k105 =>
  (ck 6 (gI u0 81 k104 k105)).bind fun k106 =>
  (mX9_colourOf u0 x103 x2 x3).bind fun x108 =>
  (ck 5 0).bind fun k109 =>
  (ck 11 0).bind fun k110 =>
  bd (wI u0 79 0 k110 (((gI u0 71 k106 k109) >>> (x108 &&& 31)) &&& 1)) fun u111 =>
  (ck 5 1).bind fun k112 =>
  (ck 11 1).bind fun k113 =>
  bd (wI u111 79 0 k113 (((gI u111 71 k106 k112) >>> (x108 &&& 31)) &&& 1)) fun u114 =>
  (mX9_nearOf u114 x1 x2 x3).bind fun x116 =>
  (ck 11 2).bind fun k117 =>
  bd (wI u114 79 0 k117 x116) fun u118 =>
  ((if ((gI u118 9 0 38) ≤ 0) then ((ck 48 ((8 * x103) + x2)).bind fun k156 =>
  (ck 2 1).bind fun k157 =>
  some (gI u118 69 k156 k157))
  else (some (gI u118 9 0 38))) : Option Int32).bind fun x119 =>
  (ck 11 3).bind fun k121 =>
  bd (wI u118 79 0 k121 x119) fun u122 =>
  (mX9_paceOf u122 x103 x2 x3).bind fun x124 =>
  (nz (gI u122 9 0 40)).bind fun _ =>
  (ck 11 4).bind fun k126 =>
  bd (wI u122 79 0 k126 (x124 / (gI u122 9 0 40))) fun u127 =>
  (mX9_fullOf u127 x1 x3).bind fun x129 =>
  (ck 11 5).bind fun k130 =>
  bd (wI u127 79 0 k130 x129) fun u131 =>
  (mX9_oddOf u131 x103).bind fun x133 =>
  ((if (x133 = x2) then (some 1)
  else (some 0)) : Option Int32).bind fun x134 =>
  (ck 11 6).bind fun k136 =>
  bd (wI u131 79 0 k136 x134) fun u137 =>
  (ck 5 4).bind fun k138 =>
  (ck 11 7).bind fun k139 =>
  bd (wI u137 79 0 k139 (gI u137 71 k106 k138)) fun u140 =>
  (mX9_isChanged u140 x103 x2 x3).bind fun x142 =>
  ((if (x142 = 0) then (some 0)
  else (some 1)) : Option Int32).bind fun x143 =>
  (ck 11 8).bind fun k145 =>
  bd (wI u140 79 0 k145 x143) fun u146 =>
  (ck 15 x1).bind fun k147 =>
  (ck 8 2).bind fun k148 =>
  (ck 11 9).bind fun k149 =>
  bd (wI u146 79 0 k149 (gI u146 81 k147 k148)) fun u150 =>
  (ck 11 10).bind fun k151 =>
  bd (wI u150 79 0 k151 x3) fun u152 =>
  some u152
def mX9_isThing (u0 : HS) (x1 : Int32) (x2 : Int32) : Option Int32 :=
  (ck 15 x1).bind fun k101 =>
  (ck 8 0).bind fun k102 =>
  (ck 6 (gI u0 81 k101 k102)).bind fun k103 =>
  (mX9_in x2 0 ((gI u0 67 0 k103) - 1)).bind fun x105 =>
  (zb x105).bind fun _ =>
  some x105
def mX9_name (u0 : HS) (x1 : Int32) (x2 : Int32) (x3 : Int32) (x4 : Int32) : Option (Int32 × HS) :=
  bd (wI u0 9 0 0 0) fun u101 =>
  (mX9_isLooker u101 x1).bind fun x103 =>
  ((if (x103 = 0) then (some 1)
  else (some 0)) : Option Int32).bind fun x104 =>
  (mX9_bad u101 x104 1).bind fun z106 => bd z106.1 fun x107 => bd z106.2 fun u108 =>
  if (x107 = 0) then ((mX9_isThing u108 x1 x2).bind fun x111 =>
  ((jp (((some 1) : Option Int32)) fun j121 =>
  if (x111 = 0) then (j121)
  else ((mX9_in x3 0 299).bind fun x124 =>
  if (x124 = 0) then (j121)
  else ((mX9_in x4 0 10).bind fun x127 =>
  if (x127 = 0) then (j121)
  else (some 0)))) : Option Int32).bind fun x112 =>
  (mX9_bad u108 x112 1).bind fun z114 => bd z114.1 fun x115 => bd z114.2 fun u116 =>
  if (x115 = 0) then ((mX9_tellsNames u116 x1 x2 x3).bind fun u119 =>
  (ck 11 x4).bind fun k120 =>
  some (gI u119 79 0 k120, u119))
  else (some (0, u116)))
  else (some (0, u108))
def mX9_on_L57 (x113 : Int32) (x1 : Int32) (u108 : HS) (x2 : Int32) (w117 : Int32 → Option (Int32 × HS)) : Nat → Int32 → Int32 → Option (Int32 × HS)
  | 0, _, _ => none
  | fu + 1, x114, x115 =>
    if (x113 = (-1)) then (w117 x114)
    else ((ck 15 x1).bind fun k119 =>
    (ck 8 0).bind fun k120 =>
    (mX9_endOf u108 (gI u108 81 k119 k120)).bind fun x122 =>
    if (x122 < x115) then (w117 x114)
    else ((mX9_nearOf u108 x1 x113 x115).bind fun x125 =>
    ((if (x2 < x125) then (some 0)
    else (some 1)) : Option Int32).bind fun x126 =>
    bd (x114 + x126) fun x128 =>
    bd (x115 + 1) fun x129 =>
    mX9_on_L57 x113 x1 u108 x2 w117 fu x128 x129))
def mX9_on (u0 : HS) (x1 : Int32) (x2 : Int32) : Option (Int32 × HS) :=
  bd (wI u0 9 0 0 0) fun u101 =>
  (mX9_isLooker u101 x1).bind fun x103 =>
  ((jp (((some 1) : Option Int32)) fun j131 =>
  if (x103 = 0) then (j131)
  else ((mX9_in x2 0 40).bind fun x134 =>
  if (x134 = 0) then (j131)
  else (some 0))) : Option Int32).bind fun x104 =>
  (mX9_bad u101 x104 1).bind fun z106 => bd z106.1 fun x107 => bd z106.2 fun u108 =>
  if (x107 = 0) then ((ck 15 x1).bind fun k110 =>
  (ck 8 0).bind fun k111 =>
  (mX9_oddOf u108 (gI u108 81 k110 k111)).bind fun x113 =>
  jp (fun (x116 : Int32) =>
  ((some (x116, u108)) : Option (Int32 × HS))) fun w117 => mX9_on_L57 x113 x1 u108 x2 w117 FU 0 0)
  else (some (0, u108))
def mX9_getsIn (u0 : HS) (x1 : Int32) (x2 : Int32) (x3 : Int32) (x4 : Int32) : Option (Int32 × HS) :=
  (mX9_tellsNames u0 x2 x3 x4).bind fun u102 =>
  (mX9_isShut u102 x2 x4).bind fun x104 =>
  if (x104 = 0) then ((ck 15 x2).bind fun k106 =>
  (ck 8 0).bind fun k107 =>
  (mX9_isThere u102 (gI u102 81 k106 k107) x3 x4).bind fun x109 =>
  if (x109 = 0) then (some (0, u102))
  else ((mX9_getsNow u102 x1).bind fun z111 => bd z111.1 fun x112 => bd z111.2 fun u113 =>
  some (x112, u113)))
  else (some (0, u102))
def mX9_lineNow (u0 : HS) (x1 : Int32) : Option (Int32 × HS) :=
  (mX9_lastOf u0 x1 1 1 100000 100).bind fun z101 => bd z101.1 fun x102 => bd z101.2 fun u103 =>
  some (x102, u103)
def mX9_goes_L31 (x104 : Int32) (x1 : Int32) (x2 : Int32) (x3 : Int32) (x6 : Int32) (x4 : Int32) (w111 : HS → Option HS) : Nat → Int32 → Int32 → HS → Option HS
  | 0, _, _, _ => none
  | fu + 1, x107, x108, u109 =>
    if (x104 < x108) then (w111 u109)
    else ((mX9_getsIn u109 x1 x2 x3 x108).bind fun z113 => bd z113.1 fun x114 => bd z113.2 fun u115 =>
    jp (fun (x116 : Int32) (x117 : Int32) =>
    ((((jp (((bd (wI u115 9 0 42 ((gI u115 9 0 42) + x117)) fun u123 =>
    if ((gI u123 9 0 41) = (-1)) then ((mX9_lineNow u123 x1).bind fun z125 => bd z125.1 fun x126 => bd z125.2 fun u127 =>
    if ((gI u123 9 0 42) < x126) then (some u127)
    else (bd (wI u127 9 0 41 x108) fun u129 =>
    some u129))
    else (some u123)) : Option HS)) fun j122 =>
    if (x6 = 0) then (j122)
    else ((ck 11 8).bind fun k131 =>
    if ((gI u115 79 0 k131) = 0) then (some u115)
    else (j122))) : Option HS).bind fun u119 =>
    bd (x108 + 1) fun x121 =>
    mX9_goes_L31 x104 x1 x2 x3 x6 x4 w111 fu x116 x121 u119) : Option HS)) fun j118 =>
    if (x4 ≤ 0) then (j118 x107 x114)
    else ((mX9_isShut u115 x2 x108).bind fun x135 =>
    if (x135 = 0) then ((ck 15 x2).bind fun k137 =>
    (ck 8 0).bind fun k138 =>
    (mX9_isThere u115 (gI u115 81 k137 k138) x3 x108).bind fun x140 =>
    if (x140 = 0) then (j118 x107 x114)
    else (bd ((x107 * 1103515245) + 12345) fun x142 =>
    (nz (x4 + 1)).bind fun _ =>
    bd (x114 + (((x142 >>> ((16 : Int32) &&& 31)) &&& 32767) - ((x142 >>> ((16 : Int32) &&& 31)) &&& 32767) / (x4 + 1) * (x4 + 1))) fun x144 =>
    j118 x142 x144))
    else (j118 x107 x114)))
def mX9_goes (u0 : HS) (x1 : Int32) (x2 : Int32) (x3 : Int32) (x4 : Int32) (x5 : Int32) (x6 : Int32) : Option HS :=
  (ck 15 x2).bind fun k101 =>
  (ck 8 0).bind fun k102 =>
  (mX9_endOf u0 (gI u0 81 k101 k102)).bind fun x104 =>
  bd (wI u0 9 0 41 (-1)) fun u105 =>
  bd (wI u105 9 0 42 0) fun u106 =>
  jp (fun (u110 : HS) =>
  ((some u110) : Option HS)) fun w111 => mX9_goes_L31 x104 x1 x2 x3 x6 x4 w111 FU x5 0 u106
def mX9_seenOf (u0 : HS) (x1 : Int32) (x2 : Int32) (x3 : Int32) : Option (Int32 × HS) :=
  (mX9_goes u0 x1 x2 x3 0 0 0).bind fun u102 =>
  some (gI u102 9 0 41, u102)
def mX9_gets_L120 (x4 : Int32) (x1 : Int32) (x2 : Int32) (x3 : Int32) (w138 : Int32 → HS → Option (Int32 × HS)) : Nat → Int32 → Int32 → HS → Option (Int32 × HS)
  | 0, _, _, _ => none
  | fu + 1, x133, x134, u135 =>
    if (x4 < x134) then (w138 x133 u135)
    else ((mX9_getsIn u135 x1 x2 x3 x134).bind fun z140 => bd z140.1 fun x141 => bd z140.2 fun u142 =>
    bd (x133 + x141) fun x143 =>
    bd (x134 + 1) fun x144 =>
    mX9_gets_L120 x4 x1 x2 x3 w138 fu x143 x144 u142)
def mX9_gets (u0 : HS) (x1 : Int32) (x2 : Int32) (x3 : Int32) (x4 : Int32) (x5 : Int32) : Option (Int32 × HS) :=
  bd (wI u0 9 0 0 0) fun u101 =>
  (mX9_isLaw u101 x1).bind fun x103 =>
  ((if (x103 = 0) then (some 1)
  else (some 0)) : Option Int32).bind fun x104 =>
  (mX9_bad u101 x104 1).bind fun z106 => bd z106.1 fun x107 => bd z106.2 fun u108 =>
  if (x107 = 0) then ((mX9_isLooker u108 x2).bind fun x111 =>
  ((if (x111 = 0) then (some 1)
  else (some 0)) : Option Int32).bind fun x112 =>
  (mX9_bad u108 x112 2).bind fun z114 => bd z114.1 fun x115 => bd z114.2 fun u116 =>
  if (x115 = 0) then ((mX9_isThing u116 x2 x3).bind fun x119 =>
  ((jp (((some 1) : Option Int32)) fun j148 =>
  if (x119 = 0) then (j148)
  else ((mX9_in x4 0 299).bind fun x151 =>
  if (x151 = 0) then (j148)
  else ((mX9_in x5 0 2).bind fun x154 =>
  if (x154 = 0) then (j148)
  else (some 0)))) : Option Int32).bind fun x120 =>
  (mX9_bad u116 x120 2).bind fun z122 => bd z122.1 fun x123 => bd z122.2 fun u124 =>
  if (x123 = 0) then (if (x5 = 0) then ((mX9_getsIn u124 x1 x2 x3 x4).bind fun z145 => bd z145.1 fun x146 => bd z145.2 fun u147 =>
  some (x146, u147))
  else (if (x5 = 1) then (jp (fun (x136 : Int32) (u137 : HS) =>
  ((some (x136, u137)) : Option (Int32 × HS))) fun w138 => mX9_gets_L120 x4 x1 x2 x3 w138 FU 0 0 u124)
  else ((mX9_tellsNames u124 x2 x3 x4).bind fun u129 =>
  (mX9_lineNow u129 x1).bind fun z130 => bd z130.1 fun x131 => bd z130.2 fun u132 =>
  some (x131, u132))))
  else (some (0, u124)))
  else (some (0, u116)))
  else (some (0, u108))
def mX9_seen (u0 : HS) (x1 : Int32) (x2 : Int32) (x3 : Int32) : Option (Int32 × HS) :=
  bd (wI u0 9 0 0 0) fun u101 =>
  (mX9_isLaw u101 x1).bind fun x103 =>
  ((if (x103 = 0) then (some 1)
  else (some 0)) : Option Int32).bind fun x104 =>
  (mX9_bad u101 x104 1).bind fun z106 => bd z106.1 fun x107 => bd z106.2 fun u108 =>
  if (x107 = 0) then ((mX9_isLooker u108 x2).bind fun x111 =>
  ((if (x111 = 0) then (some 1)
  else (some 0)) : Option Int32).bind fun x112 =>
  (mX9_bad u108 x112 2).bind fun z114 => bd z114.1 fun x115 => bd z114.2 fun u116 =>
  if (x115 = 0) then ((mX9_isThing u116 x2 x3).bind fun x119 =>
  ((if (x119 = 0) then (some 1)
  else (some 0)) : Option Int32).bind fun x120 =>
  (mX9_bad u116 x120 2).bind fun z122 => bd z122.1 fun x123 => bd z122.2 fun u124 =>
  if (x123 = 0) then ((mX9_seenOf u124 x1 x2 x3).bind fun z126 => bd z126.1 fun x127 => bd z126.2 fun u128 =>
  some (x127, u128))
  else (some (0, u124)))
  else (some (0, u116)))
  else (some (0, u108))
def mX9_isForgotten (u0 : HS) (x1 : Int32) (x2 : Int32) : Option (Int32 × HS) :=
  (ck 15 x2).bind fun k101 =>
  (ck 8 0).bind fun k102 =>
  (mX9_endOf u0 (gI u0 81 k101 k102)).bind fun x104 =>
  (ck 15 x2).bind fun k105 =>
  (ck 8 0).bind fun k106 =>
  (mX9_oddOf u0 (gI u0 81 k105 k106)).bind fun x108 =>
  (mX9_tellsNames u0 x2 x108 x104).bind fun u110 =>
  (mX9_lastOf u110 x1 2 0 999 999).bind fun z111 => bd z111.1 fun x112 => bd z111.2 fun u113 =>
  if ((x104 - (gI u110 9 0 41)) ≤ x112) then (some (0, u113))
  else (some (1, u113))
def mX9_isUnsure (u0 : HS) (x1 : Int32) (x2 : Int32) : Option (Int32 × HS) :=
  (ck 15 x2).bind fun k101 =>
  (ck 8 0).bind fun k102 =>
  (mX9_oddOf u0 (gI u0 81 k101 k102)).bind fun x104 =>
  (ck 15 x2).bind fun k105 =>
  (ck 8 0).bind fun k106 =>
  (mX9_endOf u0 (gI u0 81 k105 k106)).bind fun x108 =>
  (mX9_tellsNames u0 x2 x104 x108).bind fun u110 =>
  (mX9_lastOf u110 x1 3 0 100000 0).bind fun z111 => bd z111.1 fun x112 => bd z111.2 fun u113 =>
  if (x112 ≤ (gI u110 9 0 42)) then (some (0, u113))
  else (some (1, u113))
def mX9_saysBy (u0 : HS) (x1 : Int32) (x2 : Int32) (x3 : Int32) : Option (Int32 × HS) :=
  (ck 15 x2).bind fun k101 =>
  (ck 8 0).bind fun k102 =>
  (mX9_oddOf u0 (gI u0 81 k101 k102)).bind fun x104 =>
  if (x104 = (-1)) then (some (0, u0))
  else ((mX9_seenOf u0 x1 x2 x104).bind fun z106 => bd z106.1 fun x107 => bd z106.2 fun u108 =>
  if (x107 = (-1)) then (some (0, u108))
  else (if (x3 = 2) then (some (1, u108))
  else ((mX9_isUnsure u108 x1 x2).bind fun z111 => bd z111.1 fun x112 => bd z111.2 fun u113 =>
  if (x112 = 0) then (if (x3 = 1) then (some (1, u113))
  else ((mX9_isForgotten u113 x1 x2).bind fun z116 => bd z116.1 fun x117 => bd z116.2 fun u118 =>
  if (x117 = 0) then (some (1, u118))
  else (some (0, u118))))
  else (some (0, u113)))))
def mX9_says (u0 : HS) (x1 : Int32) (x2 : Int32) (x3 : Int32) : Option (Int32 × HS) :=
  bd (wI u0 9 0 0 0) fun u101 =>
  (mX9_isLaw u101 x1).bind fun x103 =>
  ((if (x103 = 0) then (some 1)
  else (some 0)) : Option Int32).bind fun x104 =>
  (mX9_bad u101 x104 1).bind fun z106 => bd z106.1 fun x107 => bd z106.2 fun u108 =>
  if (x107 = 0) then ((mX9_isLooker u108 x2).bind fun x111 =>
  ((jp (((some 1) : Option Int32)) fun j122 =>
  if (x111 = 0) then (j122)
  else ((mX9_in x3 0 2).bind fun x125 =>
  if (x125 = 0) then (j122)
  else (some 0))) : Option Int32).bind fun x112 =>
  (mX9_bad u108 x112 2).bind fun z114 => bd z114.1 fun x115 => bd z114.2 fun u116 =>
  if (x115 = 0) then ((mX9_saysBy u116 x1 x2 x3).bind fun z118 => bd z118.1 fun x119 => bd z118.2 fun u120 =>
  (zb x119).bind fun _ =>
  some (x119, u120))
  else (some (0, u116)))
  else (some (0, u108))
def mX9_isDropped_L12 (u0 : HS) (x103 : Int32) (x2 : Int32) (x1 : Int32) (w105 : Option Int32) : Nat → Int32 → Option Int32
  | 0, _ => none
  | fu + 1, x104 =>
    (mX9_endOf u0 x103).bind fun x107 =>
    if (x107 < x104) then (w105)
    else ((mX9_isThere u0 x103 x2 x104).bind fun x110 =>
    jp (((bd (x104 + 1) fun x112 =>
    mX9_isDropped_L12 u0 x103 x2 x1 w105 fu x112) : Option Int32)) fun j111 =>
    if (x110 = 0) then (j111)
    else ((ck 15 x1).bind fun k114 =>
    (ck 8 1).bind fun k115 =>
    (ck 6 (gI u0 81 k114 k115)).bind fun k116 =>
    (ck 5 1).bind fun k117 =>
    (mX9_colourOf u0 x103 x2 x104).bind fun x119 =>
    if ((((gI u0 71 k116 k117) >>> (x119 &&& 31)) &&& 1) = 1) then (some 1)
    else (j111)))
def mX9_isDropped (u0 : HS) (x1 : Int32) (x2 : Int32) : Option Int32 :=
  (ck 15 x1).bind fun k101 =>
  (ck 8 0).bind fun k102 =>
  bd (gI u0 81 k101 k102) fun x103 =>
  jp (((some 0) : Option Int32)) fun w105 => mX9_isDropped_L12 u0 x103 x2 x1 w105 FU 0
def mX9_nearest_L6 (x1 : Int32) (u0 : HS) (x2 : Int32) (w104 : Int32 → Option Int32) : Nat → Int32 → Int32 → Option Int32
  | 0, _, _ => none
  | fu + 1, x101, x102 =>
    (ck 15 x1).bind fun k105 =>
    (ck 8 0).bind fun k106 =>
    (mX9_endOf u0 (gI u0 81 k105 k106)).bind fun x108 =>
    if (x108 < x102) then (w104 x101)
    else ((mX9_nearOf u0 x1 x2 x102).bind fun x111 =>
    (mX9_less x101 x111).bind fun x113 =>
    bd (x102 + 1) fun x114 =>
    mX9_nearest_L6 x1 u0 x2 w104 fu x113 x114)
def mX9_nearest (u0 : HS) (x1 : Int32) (x2 : Int32) : Option Int32 :=
  jp (fun (x103 : Int32) =>
  ((some x103) : Option Int32)) fun w104 => mX9_nearest_L6 x1 u0 x2 w104 FU 99 0
def mX9_miss (u0 : HS) (x1 : Int32) (x2 : Int32) (x3 : Int32) : Option (Int32 × HS) :=
  bd (wI u0 9 0 0 0) fun u101 =>
  (mX9_isLaw u101 x1).bind fun x103 =>
  ((if (x103 = 0) then (some 1)
  else (some 0)) : Option Int32).bind fun x104 =>
  (mX9_bad u101 x104 1).bind fun z106 => bd z106.1 fun x107 => bd z106.2 fun u108 =>
  if (x107 = 0) then ((mX9_isLooker u108 x2).bind fun x111 =>
  ((jp (((some 1) : Option Int32)) fun j147 =>
  if (x111 = 0) then (j147)
  else ((mX9_in x3 1 99).bind fun x150 =>
  if (x150 = 0) then (j147)
  else (some 0))) : Option Int32).bind fun x112 =>
  (mX9_bad u108 x112 2).bind fun z114 => bd z114.1 fun x115 => bd z114.2 fun u116 =>
  if (x115 = 0) then ((ck 15 x2).bind fun k118 =>
  (ck 8 0).bind fun k119 =>
  (mX9_oddOf u116 (gI u116 81 k118 k119)).bind fun x121 =>
  (mX9_saysBy u116 x1 x2 0).bind fun z122 => bd z122.1 fun x123 => bd z122.2 fun u124 =>
  if (x123 = 0) then (if (x121 = (-1)) then (some (0, u124))
  else ((mX9_seenOf u124 x1 x2 x121).bind fun z127 => bd z127.1 fun x128 => bd z127.2 fun u129 =>
  if (x128 = (-1)) then ((mX9_isDropped u129 x2 x121).bind fun x132 =>
  if (x132 = 0) then ((mX9_nearest u129 x2 x121).bind fun x135 =>
  if (x135 < x3) then ((mX9_nearest u129 x2 x121).bind fun x138 =>
  if (x138 ≤ 2) then (some (2, u129))
  else (some (1, u129)))
  else (some (6, u129)))
  else (some (5, u129)))
  else ((mX9_isForgotten u129 x1 x2).bind fun z140 => bd z140.1 fun x141 => bd z140.2 fun u142 =>
  if (x141 = 0) then (some (4, u142))
  else (some (3, u142)))))
  else ((ck 15 x2).bind fun k144 =>
  (ck 8 2).bind fun k145 =>
  if ((gI u124 81 k144 k145) = 1) then (some (7, u124))
  else (some ((-1), u124))))
  else (some (0, u116)))
  else (some (0, u108))
def mX9_drawn (u0 : HS) (x1 : Int32) (x2 : Int32) (x3 : Int32) (x4 : Int32) : Option (Int32 × HS) :=
  bd (wI u0 9 0 0 0) fun u101 =>
  (mX9_isLaw u101 x1).bind fun x103 =>
  ((if (x103 = 0) then (some 1)
  else (some 0)) : Option Int32).bind fun x104 =>
  (mX9_bad u101 x104 1).bind fun z106 => bd z106.1 fun x107 => bd z106.2 fun u108 =>
  if (x107 = 0) then ((mX9_isLooker u108 x2).bind fun x111 =>
  ((jp (((some 1) : Option Int32)) fun j125 =>
  if (x111 = 0) then (j125)
  else ((mX9_in x3 0 50).bind fun x128 =>
  if (x128 = 0) then (j125)
  else (some 0))) : Option Int32).bind fun x112 =>
  (mX9_bad u108 x112 2).bind fun z114 => bd z114.1 fun x115 => bd z114.2 fun u116 =>
  if (x115 = 0) then ((ck 15 x2).bind fun k118 =>
  (ck 8 0).bind fun k119 =>
  (mX9_oddOf u116 (gI u116 81 k118 k119)).bind fun x121 =>
  if (x121 = (-1)) then (some ((-1), u116))
  else ((mX9_goes u116 x1 x2 x121 x3 x4 0).bind fun u124 =>
  some (gI u124 9 0 41, u124)))
  else (some (0, u116)))
  else (some (0, u108))
def mX9_changeOf (u0 : HS) (x1 : Int32) (x2 : Int32) : Option (Int32 × HS) :=
  (ck 15 x2).bind fun k101 =>
  (ck 8 0).bind fun k102 =>
  (mX9_turnsOf u0 (gI u0 81 k101 k102)).bind fun x104 =>
  if (x104 = (-1)) then (some ((-1), u0))
  else ((mX9_goes u0 x1 x2 x104 0 0 1).bind fun u107 =>
  some (gI u107 9 0 41, u107))
def mX9_change (u0 : HS) (x1 : Int32) (x2 : Int32) : Option (Int32 × HS) :=
  bd (wI u0 9 0 0 0) fun u101 =>
  (mX9_isLaw u101 x1).bind fun x103 =>
  ((if (x103 = 0) then (some 1)
  else (some 0)) : Option Int32).bind fun x104 =>
  (mX9_bad u101 x104 1).bind fun z106 => bd z106.1 fun x107 => bd z106.2 fun u108 =>
  if (x107 = 0) then ((mX9_isLooker u108 x2).bind fun x111 =>
  ((if (x111 = 0) then (some 1)
  else (some 0)) : Option Int32).bind fun x112 =>
  (mX9_bad u108 x112 2).bind fun z114 => bd z114.1 fun x115 => bd z114.2 fun u116 =>
  if (x115 = 0) then ((mX9_changeOf u116 x1 x2).bind fun z118 => bd z118.1 fun x119 => bd z118.2 fun u120 =>
  some (x119, u120))
  else (some (0, u116)))
  else (some (0, u108))
def mX9_yet_L32 (x1 : Int32) (w115 : Int32 → HS → Option (Int32 × HS)) : Nat → Int32 → Int32 → HS → Option (Int32 × HS)
  | 0, _, _, _ => none
  | fu + 1, x110, x111, u112 =>
    if ((gI u112 9 0 28) ≤ x111) then (w115 x110 u112)
    else ((ck 15 x111).bind fun k117 =>
    (ck 8 0).bind fun k118 =>
    (mX9_oddOf u112 (gI u112 81 k117 k118)).bind fun x120 =>
    jp (fun (x121 : Int32) (u122 : HS) =>
    ((bd (x111 + 1) fun x124 =>
    mX9_yet_L32 x1 w115 fu x121 x124 u122) : Option (Int32 × HS))) fun j123 =>
    if (x120 = (-1)) then (j123 x110 u112)
    else ((mX9_nearest u112 x111 x120).bind fun x127 =>
    if (2 < x127) then (j123 x110 u112)
    else ((mX9_seenOf u112 x1 x111 x120).bind fun z129 => bd z129.1 fun x130 => bd z129.2 fun u131 =>
    if (x130 = (-1)) then (bd (x110 ||| ((1 : Int32) <<< (x111 &&& 31))) fun x133 =>
    j123 x133 u131)
    else (j123 x110 u131))))
def mX9_yet (u0 : HS) (x1 : Int32) : Option (Int32 × HS) :=
  bd (wI u0 9 0 0 0) fun u101 =>
  (mX9_isLaw u101 x1).bind fun x103 =>
  ((if (x103 = 0) then (some 1)
  else (some 0)) : Option Int32).bind fun x104 =>
  (mX9_bad u101 x104 1).bind fun z106 => bd z106.1 fun x107 => bd z106.2 fun u108 =>
  if (x107 = 0) then (jp (fun (x113 : Int32) (u114 : HS) =>
  ((some (x113, u114)) : Option (Int32 × HS))) fun w115 => mX9_yet_L32 x1 w115 FU 0 0 u108)
  else (some (0, u108))
def mX9_least_L87 (x121 : Int32) (x3 : Int32) (x1 : Int32) (x2 : Int32) (w129 : Int32 → HS → Option (Int32 × HS)) : Nat → Int32 → Int32 → HS → Option (Int32 × HS)
  | 0, _, _, _ => none
  | fu + 1, x124, x125, u126 =>
    if (x121 = (-1)) then (w129 x124 u126)
    else (if (x124 = (-1)) then (((if (x3 = 1) then (some 20)
    else (some 9)) : Option Int32).bind fun x135 =>
    if (x135 < x125) then (w129 x124 u126)
    else (((if (x3 = 0) then (some x125)
    else (some 0)) : Option Int32).bind fun x138 =>
    bd (wI u126 9 0 38 x138) fun u140 =>
    ((if (x3 = 1) then (some x125)
    else (some 0)) : Option Int32).bind fun x141 =>
    bd (wI u140 9 0 39 x141) fun u143 =>
    ((if (x3 = 2) then (some x125)
    else (some 1)) : Option Int32).bind fun x144 =>
    bd (wI u143 9 0 40 x144) fun u146 =>
    (mX9_seenOf u146 x1 x2 x121).bind fun z147 => bd z147.1 fun x148 => bd z147.2 fun u149 =>
    ((if (x148 = (-1)) then (some (-1))
    else (some x125)) : Option Int32).bind fun x150 =>
    bd (x125 + 1) fun x152 =>
    mX9_least_L87 x121 x3 x1 x2 w129 fu x150 x152 u149))
    else (w129 x124 u126))
def mX9_least (u0 : HS) (x1 : Int32) (x2 : Int32) (x3 : Int32) : Option (Int32 × HS) :=
  bd (wI u0 9 0 0 0) fun u101 =>
  (mX9_isLaw u101 x1).bind fun x103 =>
  ((if (x103 = 0) then (some 1)
  else (some 0)) : Option Int32).bind fun x104 =>
  (mX9_bad u101 x104 1).bind fun z106 => bd z106.1 fun x107 => bd z106.2 fun u108 =>
  if (x107 = 0) then ((mX9_isLooker u108 x2).bind fun x111 =>
  ((jp (((some 1) : Option Int32)) fun j159 =>
  if (x111 = 0) then (j159)
  else ((mX9_in x3 0 2).bind fun x162 =>
  if (x162 = 0) then (j159)
  else (some 0))) : Option Int32).bind fun x112 =>
  (mX9_bad u108 x112 2).bind fun z114 => bd z114.1 fun x115 => bd z114.2 fun u116 =>
  if (x115 = 0) then ((ck 15 x2).bind fun k118 =>
  (ck 8 0).bind fun k119 =>
  (mX9_oddOf u116 (gI u116 81 k118 k119)).bind fun x121 =>
  ((if (x3 = 1) then (some 0)
  else (some 1)) : Option Int32).bind fun x122 =>
  jp (fun (x127 : Int32) (u128 : HS) =>
  ((bd (wI u128 9 0 38 0) fun u130 =>
  bd (wI u130 9 0 39 0) fun u131 =>
  bd (wI u131 9 0 40 1) fun u132 =>
  some (x127, u132)) : Option (Int32 × HS))) fun w129 => mX9_least_L87 x121 x3 x1 x2 w129 FU (-1) x122 u116)
  else (some (0, u116)))
  else (some (0, u108))
def mX9_answer (u0 : HS) (x1 : Int32) (x2 : Int32) (x3 : Int32) : Option (Int32 × HS) :=
  bd (wI u0 9 0 0 0) fun u101 =>
  (mX9_isLooker u101 x1).bind fun x103 =>
  ((jp (((some 1) : Option Int32)) fun j119 =>
  if (x103 = 0) then (j119)
  else ((mX9_in x2 0 2).bind fun x122 =>
  if (x122 = 0) then (j119)
  else (some 0))) : Option Int32).bind fun x104 =>
  (mX9_bad u101 x104 1).bind fun z106 => bd z106.1 fun x107 => bd z106.2 fun u108 =>
  if (x107 = 0) then ((ck 15 x1).bind fun k110 =>
  (ck 8 (3 + x2)).bind fun k111 =>
  bd (gI u108 81 k110 k111) fun x112 =>
  (ck 15 x1).bind fun k113 =>
  ((if (x3 = 0) then (some 0)
  else (some 1)) : Option Int32).bind fun x114 =>
  (ck 8 (3 + x2)).bind fun k116 =>
  bd (wI u108 81 k113 k116 x114) fun u117 =>
  some (x112, u117))
  else (some (0, u108))
def mX9_counted (u0 : HS) (x1 : Int32) (x2 : Int32) : Option (Int32 × HS) :=
  bd (wI u0 9 0 0 0) fun u101 =>
  (mX9_isLooker u101 x1).bind fun x103 =>
  ((jp (((some 1) : Option Int32)) fun j116 =>
  if (x103 = 0) then (j116)
  else ((mX9_in x2 0 999).bind fun x119 =>
  if (x119 = 0) then (j116)
  else (some 0))) : Option Int32).bind fun x104 =>
  (mX9_bad u101 x104 1).bind fun z106 => bd z106.1 fun x107 => bd z106.2 fun u108 =>
  if (x107 = 0) then ((ck 15 x1).bind fun k110 =>
  (ck 8 6).bind fun k111 =>
  bd (gI u108 81 k110 k111) fun x112 =>
  (ck 15 x1).bind fun k113 =>
  (ck 8 6).bind fun k114 =>
  bd (wI u108 81 k113 k114 x2) fun u115 =>
  some (x112, u115))
  else (some (0, u108))
def mX9_sure (u0 : HS) (x1 : Int32) (x2 : Int32) : Option (Int32 × HS) :=
  bd (wI u0 9 0 0 0) fun u101 =>
  (mX9_isLooker u101 x1).bind fun x103 =>
  ((jp (((some 1) : Option Int32)) fun j116 =>
  if (x103 = 0) then (j116)
  else ((mX9_in x2 0 100).bind fun x119 =>
  if (x119 = 0) then (j116)
  else (some 0))) : Option Int32).bind fun x104 =>
  (mX9_bad u101 x104 1).bind fun z106 => bd z106.1 fun x107 => bd z106.2 fun u108 =>
  if (x107 = 0) then ((ck 15 x1).bind fun k110 =>
  (ck 8 7).bind fun k111 =>
  bd (gI u108 81 k110 k111) fun x112 =>
  (ck 15 x1).bind fun k113 =>
  (ck 8 7).bind fun k114 =>
  bd (wI u108 81 k113 k114 x2) fun u115 =>
  some (x112, u115))
  else (some (0, u108))
def mX9_isOf (u0 : HS) (x1 : Int32) (x2 : Int32) (x3 : Int32) : Option Int32 :=
  (ck 15 x1).bind fun k101 =>
  (ck 8 0).bind fun k102 =>
  if ((gI u0 81 k101 k102) = x2) then ((ck 15 x1).bind fun k104 =>
  (ck 8 1).bind fun k105 =>
  if ((gI u0 81 k104 k105) = x3) then (some 1)
  else (some 0))
  else (some 0)
def mX9_isInGroup (u0 : HS) (x1 : Int32) (x2 : Int32) (x3 : Int32) (x4 : Int32) : Option Int32 :=
  (mX9_isOf u0 x1 x2 x3).bind fun x102 =>
  if (x102 = 0) then (some 0)
  else ((ck 15 x1).bind fun k104 =>
  (ck 8 2).bind fun k105 =>
  if ((gI u0 81 k104 k105) = 0) then ((ck 15 x1).bind fun k107 =>
  (ck 8 (3 + x4)).bind fun k108 =>
  if ((gI u0 81 k107 k108) = (-1)) then (some 0)
  else (some 1))
  else (some 0))
def mX9_asked_L6 (u0 : HS) (x1 : Int32) (x2 : Int32) (x3 : Int32) (w104 : Int32 → Option Int32) : Nat → Int32 → Int32 → Option Int32
  | 0, _, _ => none
  | fu + 1, x101, x102 =>
    if ((gI u0 9 0 28) ≤ x102) then (w104 x101)
    else ((mX9_isInGroup u0 x102 x1 x2 x3).bind fun x107 =>
    ((if (x107 = 0) then (some 0)
    else (some 1)) : Option Int32).bind fun x108 =>
    bd (x101 + x108) fun x110 =>
    bd (x102 + 1) fun x111 =>
    mX9_asked_L6 u0 x1 x2 x3 w104 fu x110 x111)
def mX9_asked (u0 : HS) (x1 : Int32) (x2 : Int32) (x3 : Int32) : Option Int32 :=
  jp (fun (x103 : Int32) =>
  ((some x103) : Option Int32)) fun w104 => mX9_asked_L6 u0 x1 x2 x3 w104 FU 0 0
def mX9_yes_L6 (u0 : HS) (x1 : Int32) (x2 : Int32) (x3 : Int32) (w104 : Int32 → Option Int32) : Nat → Int32 → Int32 → Option Int32
  | 0, _, _ => none
  | fu + 1, x101, x102 =>
    if ((gI u0 9 0 28) ≤ x102) then (w104 x101)
    else ((mX9_isInGroup u0 x102 x1 x2 x3).bind fun x107 =>
    ((if (x107 = 0) then (some 0)
    else ((ck 15 x102).bind fun k113 =>
    (ck 8 (3 + x3)).bind fun k114 =>
    some (gI u0 81 k113 k114))) : Option Int32).bind fun x108 =>
    bd (x101 + x108) fun x110 =>
    bd (x102 + 1) fun x111 =>
    mX9_yes_L6 u0 x1 x2 x3 w104 fu x110 x111)
def mX9_yes (u0 : HS) (x1 : Int32) (x2 : Int32) (x3 : Int32) : Option Int32 :=
  jp (fun (x103 : Int32) =>
  ((some x103) : Option Int32)) fun w104 => mX9_yes_L6 u0 x1 x2 x3 w104 FU 0 0
def mX9_root_L2 (x0 : Int32) (w103 : Int32 → Option Int32) : Nat → Int32 → Option Int32
  | 0, _ => none
  | fu + 1, x101 =>
    if (x0 < ((x101 + 1) * (x101 + 1))) then (w103 x101)
    else (bd (x101 + 1) fun x105 =>
    mX9_root_L2 x0 w103 fu x105)
def mX9_root (x0 : Int32) : Option Int32 :=
  jp (fun (x102 : Int32) =>
  ((some x102) : Option Int32)) fun w103 => mX9_root_L2 x0 w103 FU 0
def mX9_share (u0 : HS) (x1 : Int32) (x2 : Int32) (x3 : Int32) (x4 : Int32) : Option (Int32 × HS) :=
  bd (wI u0 9 0 0 0) fun u101 =>
  (mX9_isScene u101 x1).bind fun x103 =>
  ((if (x103 = 0) then (some 1)
  else (some 0)) : Option Int32).bind fun x104 =>
  (mX9_bad u101 x104 1).bind fun z106 => bd z106.1 fun x107 => bd z106.2 fun u108 =>
  if (x107 = 0) then ((mX9_isTask u108 x2).bind fun x111 =>
  ((if (x111 = 0) then (some 1)
  else (some 0)) : Option Int32).bind fun x112 =>
  (mX9_bad u108 x112 2).bind fun z114 => bd z114.1 fun x115 => bd z114.2 fun u116 =>
  if (x115 = 0) then ((mX9_in x3 0 2).bind fun x119 =>
  ((jp (((some 1) : Option Int32)) fun j140 =>
  if (x119 = 0) then (j140)
  else ((mX9_in x4 0 3).bind fun x143 =>
  if (x143 = 0) then (j140)
  else (some 0))) : Option Int32).bind fun x120 =>
  (mX9_bad u116 x120 3).bind fun z122 => bd z122.1 fun x123 => bd z122.2 fun u124 =>
  if (x123 = 0) then ((mX9_asked u124 x1 x2 x3).bind fun x127 =>
  (mX9_yes u124 x1 x2 x3).bind fun x129 =>
  (mX9_root x129).bind fun x131 =>
  bd (1 + x131) fun x132 =>
  if (x4 = 0) then (some (x127, u124))
  else (if (x4 = 1) then (some (x129, u124))
  else (if (x4 = 2) then ((mX9_more 0 (x129 - x132)).bind fun x139 =>
  some (x139, u124))
  else ((mX9_less x127 (x129 + x132)).bind fun x137 =>
  some (x137, u124)))))
  else (some (0, u124)))
  else (some (0, u116)))
  else (some (0, u108))
def mX9_guessed (u0 : HS) (x1 : Int32) (x2 : Int32) (x3 : Int32) (x4 : Int32) : Option (Int32 × HS) :=
  bd (wI u0 9 0 0 0) fun u101 =>
  (mX9_isScene u101 x1).bind fun x103 =>
  ((jp (((some 1) : Option Int32)) fun j141 =>
  if (x103 = 0) then (j141)
  else ((mX9_isScene u101 x2).bind fun x144 =>
  if (x144 = 0) then (j141)
  else (some 0))) : Option Int32).bind fun x104 =>
  (mX9_bad u101 x104 1).bind fun z106 => bd z106.1 fun x107 => bd z106.2 fun u108 =>
  if (x107 = 0) then ((mX9_isTask u108 x3).bind fun x111 =>
  ((if (x111 = 0) then (some 1)
  else (some 0)) : Option Int32).bind fun x112 =>
  (mX9_bad u108 x112 2).bind fun z114 => bd z114.1 fun x115 => bd z114.2 fun u116 =>
  if (x115 = 0) then ((mX9_in x4 0 2).bind fun x119 =>
  ((if (x119 = 0) then (some 1)
  else (some 0)) : Option Int32).bind fun x120 =>
  (mX9_bad u116 x120 3).bind fun z122 => bd z122.1 fun x123 => bd z122.2 fun u124 =>
  if (x123 = 0) then ((mX9_asked u124 x1 x3 x4).bind fun x127 =>
  (mX9_yes u124 x1 x3 x4).bind fun x129 =>
  (mX9_asked u124 x2 x3 x4).bind fun x131 =>
  (mX9_yes u124 x2 x3 x4).bind fun x133 =>
  bd (x127 * (x131 - x133)) fun x134 =>
  if (x134 = 0) then (some ((-1), u124))
  else ((nz x134).bind fun _ =>
  (mX9_more 0 ((1000 * ((x129 * x131) - (x133 * x127))) / x134)).bind fun x138 =>
  some (x138, u124)))
  else (some (0, u124)))
  else (some (0, u116)))
  else (some (0, u108))
def mX9_choose_L16 (x1 : Int32) (x0 : Int32) (w106 : Int64 → Option Int32) : Nat → Int64 → Int32 → Option Int32
  | 0, _, _ => none
  | fu + 1, y103, x104 =>
    if (x1 ≤ x104) then (w106 y103)
    else ((nzL ((x104 + 1).toInt64)).bind fun _ =>
    bd ((y103 * ((x0 - x104).toInt64)) / ((x104 + 1).toInt64)) fun y109 =>
    bd (x104 + 1) fun x110 =>
    mX9_choose_L16 x1 x0 w106 fu y109 x110)
def mX9_choose (x0 : Int32) (x1 : Int32) : Option Int32 :=
  if (x1 < 0) then (some 0)
  else (if (x1 ≤ x0) then (jp (fun (y105 : Int64) =>
  ((some (y105.toInt32)) : Option Int32)) fun w106 => mX9_choose_L16 x1 x0 w106 FU 1 0)
  else (some 0))
def mX9_apart_L182 (x127 : Int32) (x129 : Int32) (x133 : Int32) (x131 : Int32) (w139 : Int32 → Option (Int32 × HS)) : Nat → Int32 → Int32 → Option (Int32 × HS)
  | 0, _, _ => none
  | fu + 1, x136, x137 =>
    if (x127 < x137) then (w139 x136)
    else ((mX9_choose (x129 + x133) x137).bind fun x142 =>
    (mX9_choose (((x127 + x131) - x129) - x133) (x127 - x137)).bind fun x144 =>
    bd (x136 + (x142 * x144)) fun x145 =>
    bd (x137 + 1) fun x146 =>
    mX9_apart_L182 x127 x129 x133 x131 w139 fu x145 x146)
def mX9_apart (u0 : HS) (x1 : Int32) (x2 : Int32) (x3 : Int32) (x4 : Int32) (x5 : Int32) (x6 : Int32) : Option (Int32 × HS) :=
  bd (wI u0 9 0 0 0) fun u101 =>
  (mX9_isScene u101 x1).bind fun x103 =>
  ((jp (((some 1) : Option Int32)) fun j159 =>
  if (x103 = 0) then (j159)
  else ((mX9_isScene u101 x3).bind fun x162 =>
  if (x162 = 0) then (j159)
  else (some 0))) : Option Int32).bind fun x104 =>
  (mX9_bad u101 x104 1).bind fun z106 => bd z106.1 fun x107 => bd z106.2 fun u108 =>
  if (x107 = 0) then ((mX9_isTask u108 x2).bind fun x111 =>
  ((jp (((some 1) : Option Int32)) fun j154 =>
  if (x111 = 0) then (j154)
  else ((mX9_isTask u108 x4).bind fun x157 =>
  if (x157 = 0) then (j154)
  else (some 0))) : Option Int32).bind fun x112 =>
  (mX9_bad u108 x112 2).bind fun z114 => bd z114.1 fun x115 => bd z114.2 fun u116 =>
  if (x115 = 0) then ((mX9_in x5 0 2).bind fun x119 =>
  ((jp (((some 1) : Option Int32)) fun j149 =>
  if (x119 = 0) then (j149)
  else ((mX9_in x6 0 2).bind fun x152 =>
  if (x152 = 0) then (j149)
  else (some 0))) : Option Int32).bind fun x120 =>
  (mX9_bad u116 x120 3).bind fun z122 => bd z122.1 fun x123 => bd z122.2 fun u124 =>
  if (x123 = 0) then ((mX9_asked u124 x1 x2 x5).bind fun x127 =>
  (mX9_yes u124 x1 x2 x5).bind fun x129 =>
  (mX9_asked u124 x3 x4 x5).bind fun x131 =>
  (mX9_yes u124 x3 x4 x5).bind fun x133 =>
  if (x6 = 0) then (some ((x129 * x131) - (x133 * x127), u124))
  else (if (x6 = 2) then ((mX9_choose (x127 + x131) x127).bind fun x148 =>
  some (x148, u124))
  else (jp (fun (x138 : Int32) =>
  ((some (x138, u124)) : Option (Int32 × HS))) fun w139 => mX9_apart_L182 x127 x129 x133 x131 w139 FU 0 x129)))
  else (some (0, u124)))
  else (some (0, u116)))
  else (some (0, u108))
def mX9_gone_L77 (u124 : HS) (x1 : Int32) (x2 : Int32) (x3 : Int32) (w129 : Int32 → Option (Int32 × HS)) : Nat → Int32 → Int32 → Option (Int32 × HS)
  | 0, _, _ => none
  | fu + 1, x126, x127 =>
    if ((gI u124 9 0 28) ≤ x127) then (w129 x126)
    else ((ck 15 x127).bind fun k131 =>
    (mX9_isOf u124 x127 x1 x2).bind fun x133 =>
    ((if (x133 = 0) then (some x126)
    else ((ck 8 2).bind fun k138 =>
    if ((gI u124 81 k131 k138) = 1) then (some x126)
    else ((ck 8 3).bind fun k140 =>
    if ((gI u124 81 k131 k140) = (-1)) then (some x126)
    else ((ck 8 4).bind fun k142 =>
    if ((gI u124 81 k131 k142) = (-1)) then (some x126)
    else ((ck 8 5).bind fun k144 =>
    if ((gI u124 81 k131 k144) = (-1)) then (some x126)
    else (((jp (((some 1) : Option Int32)) fun j149 =>
    if (x3 = 2) then (j149)
    else (jp (((some 0) : Option Int32)) fun j151 =>
    if (x3 = 0) then ((ck 8 3).bind fun k157 =>
    if ((gI u124 81 k131 k157) = 0) then ((ck 8 5).bind fun k159 =>
    if ((gI u124 81 k131 k159) = 1) then (j149)
    else (j151))
    else (j151))
    else ((ck 8 3).bind fun k153 =>
    (ck 8 4).bind fun k154 =>
    (ck 8 5).bind fun k155 =>
    if ((((gI u124 81 k131 k153) + (gI u124 81 k131 k154)) + (gI u124 81 k131 k155)) = 0) then (j149)
    else (j151)))) : Option Int32).bind fun x146 =>
    bd (x126 + x146) fun x148 =>
    some x148)))))) : Option Int32).bind fun x134 =>
    bd (x127 + 1) fun x136 =>
    mX9_gone_L77 u124 x1 x2 x3 w129 fu x134 x136)
def mX9_gone (u0 : HS) (x1 : Int32) (x2 : Int32) (x3 : Int32) : Option (Int32 × HS) :=
  bd (wI u0 9 0 0 0) fun u101 =>
  (mX9_isScene u101 x1).bind fun x103 =>
  ((if (x103 = 0) then (some 1)
  else (some 0)) : Option Int32).bind fun x104 =>
  (mX9_bad u101 x104 1).bind fun z106 => bd z106.1 fun x107 => bd z106.2 fun u108 =>
  if (x107 = 0) then ((mX9_isTask u108 x2).bind fun x111 =>
  ((if (x111 = 0) then (some 1)
  else (some 0)) : Option Int32).bind fun x112 =>
  (mX9_bad u108 x112 2).bind fun z114 => bd z114.1 fun x115 => bd z114.2 fun u116 =>
  if (x115 = 0) then ((mX9_in x3 0 2).bind fun x119 =>
  ((if (x119 = 0) then (some 1)
  else (some 0)) : Option Int32).bind fun x120 =>
  (mX9_bad u116 x120 3).bind fun z122 => bd z122.1 fun x123 => bd z122.2 fun u124 =>
  if (x123 = 0) then (jp (fun (x128 : Int32) =>
  ((some (x128, u124)) : Option (Int32 × HS))) fun w129 => mX9_gone_L77 u124 x1 x2 x3 w129 FU 0 0)
  else (some (0, u124)))
  else (some (0, u116)))
  else (some (0, u108))
def mX9_lostOf (u0 : HS) (x1 : Int32) : Option Int32 :=
  (ck 15 x1).bind fun k101 =>
  (ck 8 6).bind fun k102 =>
  if ((gI u0 81 k101 k102) = (-1)) then (some (-1))
  else ((ck 8 1).bind fun k104 =>
  (ck 6 (gI u0 81 k101 k104)).bind fun k105 =>
  (ck 5 2).bind fun k106 =>
  if ((gI u0 71 k105 k106) = (-1)) then (some (-1))
  else ((ck 8 0).bind fun k108 =>
  (ck 8 1).bind fun k109 =>
  (mX9_throwsBy u0 (gI u0 81 k101 k108) (gI u0 81 k101 k109)).bind fun x111 =>
  (ck 8 6).bind fun k112 =>
  (mX9_amount (x111 - (gI u0 81 k101 k112))).bind fun x114 =>
  some x114))
def mX9_lost (u0 : HS) (x1 : Int32) : Option (Int32 × HS) :=
  bd (wI u0 9 0 0 0) fun u101 =>
  (mX9_isLooker u101 x1).bind fun x103 =>
  ((if (x103 = 0) then (some 1)
  else (some 0)) : Option Int32).bind fun x104 =>
  (mX9_bad u101 x104 1).bind fun z106 => bd z106.1 fun x107 => bd z106.2 fun u108 =>
  if (x107 = 0) then ((mX9_lostOf u108 x1).bind fun x111 =>
  some (x111, u108))
  else (some (0, u108))
def mX9_lostBy_L6 (u0 : HS) (x1 : Int32) (x2 : Int32) (x3 : Int32) (w104 : Int32 → Option Int32) : Nat → Int32 → Int32 → Option Int32
  | 0, _, _ => none
  | fu + 1, x101, x102 =>
    if ((gI u0 9 0 28) ≤ x102) then (w104 x101)
    else ((mX9_isOf u0 x102 x1 x2).bind fun x107 =>
    ((if (x107 = 0) then (some x101)
    else ((mX9_lostOf u0 x102).bind fun x113 =>
    if (x113 = (-1)) then (some x101)
    else (((if (x3 = 0) then ((mX9_lostOf u0 x102).bind fun x120 =>
    some x120)
    else (some 1)) : Option Int32).bind fun x115 =>
    bd (x101 + x115) fun x117 =>
    some x117))) : Option Int32).bind fun x108 =>
    bd (x102 + 1) fun x110 =>
    mX9_lostBy_L6 u0 x1 x2 x3 w104 fu x108 x110)
def mX9_lostBy (u0 : HS) (x1 : Int32) (x2 : Int32) (x3 : Int32) : Option Int32 :=
  jp (fun (x103 : Int32) =>
  ((some x103) : Option Int32)) fun w104 => mX9_lostBy_L6 u0 x1 x2 x3 w104 FU 0 0
def mX9_cost (u0 : HS) (x1 : Int32) (x2 : Int32) (x3 : Int32) : Option (Int32 × HS) :=
  bd (wI u0 9 0 0 0) fun u101 =>
  (mX9_isScene u101 x1).bind fun x103 =>
  ((if (x103 = 0) then (some 1)
  else (some 0)) : Option Int32).bind fun x104 =>
  (mX9_bad u101 x104 1).bind fun z106 => bd z106.1 fun x107 => bd z106.2 fun u108 =>
  if (x107 = 0) then ((mX9_isTask u108 x2).bind fun x111 =>
  ((jp (((some 1) : Option Int32)) fun j126 =>
  if (x111 = 0) then (j126)
  else ((mX9_isTask u108 x3).bind fun x129 =>
  if (x129 = 0) then (j126)
  else (some 0))) : Option Int32).bind fun x112 =>
  (mX9_bad u108 x112 2).bind fun z114 => bd z114.1 fun x115 => bd z114.2 fun u116 =>
  if (x115 = 0) then ((mX9_lostBy u116 x1 x2 0).bind fun x119 =>
  (mX9_lostBy u116 x1 x3 1).bind fun x121 =>
  (mX9_lostBy u116 x1 x3 0).bind fun x123 =>
  (mX9_lostBy u116 x1 x2 1).bind fun x125 =>
  some ((x119 * x121) - (x123 * x125), u116))
  else (some (0, u116)))
  else (some (0, u108))
def mX9_off_L80 (u124 : HS) (x1 : Int32) (x2 : Int32) (w131 : Int32 → Int32 → Option (Int32 × HS)) : Nat → Int32 → Int32 → Int32 → Option (Int32 × HS)
  | 0, _, _, _ => none
  | fu + 1, x126, x127, x128 =>
    if ((gI u124 9 0 28) ≤ x128) then (w131 x126 x127)
    else ((mX9_isInGroup u124 x128 x1 x2 0).bind fun x135 =>
    jp (fun (x136 : Int32) (x137 : Int32) =>
    ((bd (x128 + 1) fun x139 =>
    mX9_off_L80 u124 x1 x2 w131 fu x136 x137 x139) : Option (Int32 × HS))) fun j138 =>
    if (x135 = 0) then (j138 x126 x127)
    else ((ck 15 x128).bind fun k141 =>
    (ck 8 7).bind fun k142 =>
    if ((gI u124 81 k141 k142) = (-1)) then (j138 x126 x127)
    else ((ck 15 x128).bind fun k144 =>
    (ck 8 7).bind fun k145 =>
    (ck 15 x128).bind fun k146 =>
    (ck 8 3).bind fun k147 =>
    bd (x126 + ((gI u124 81 k144 k145) - (100 * (gI u124 81 k146 k147)))) fun x148 =>
    (ck 15 x128).bind fun k149 =>
    (ck 8 7).bind fun k150 =>
    ((jp (((some 0) : Option Int32)) fun j154 =>
    if ((gI u124 81 k149 k150) < 50) then (j154)
    else ((ck 15 x128).bind fun k156 =>
    (ck 8 3).bind fun k157 =>
    if ((gI u124 81 k156 k157) = 0) then (some 1)
    else (j154))) : Option Int32).bind fun x151 =>
    bd (x127 + x151) fun x153 =>
    j138 x148 x153)))
def mX9_off (u0 : HS) (x1 : Int32) (x2 : Int32) (x3 : Int32) : Option (Int32 × HS) :=
  bd (wI u0 9 0 0 0) fun u101 =>
  (mX9_isScene u101 x1).bind fun x103 =>
  ((if (x103 = 0) then (some 1)
  else (some 0)) : Option Int32).bind fun x104 =>
  (mX9_bad u101 x104 1).bind fun z106 => bd z106.1 fun x107 => bd z106.2 fun u108 =>
  if (x107 = 0) then ((mX9_isTask u108 x2).bind fun x111 =>
  ((if (x111 = 0) then (some 1)
  else (some 0)) : Option Int32).bind fun x112 =>
  (mX9_bad u108 x112 2).bind fun z114 => bd z114.1 fun x115 => bd z114.2 fun u116 =>
  if (x115 = 0) then ((mX9_in x3 0 1).bind fun x119 =>
  ((if (x119 = 0) then (some 1)
  else (some 0)) : Option Int32).bind fun x120 =>
  (mX9_bad u116 x120 3).bind fun z122 => bd z122.1 fun x123 => bd z122.2 fun u124 =>
  if (x123 = 0) then (jp (fun (x129 : Int32) (x130 : Int32) =>
  ((if (x3 = 0) then (some (x129, u124))
  else (some (x130, u124))) : Option (Int32 × HS))) fun w131 => mX9_off_L80 u124 x1 x2 w131 FU 0 0 0)
  else (some (0, u124)))
  else (some (0, u116)))
  else (some (0, u108))
def mX9_weigh (u0 : HS) (x1 : Int32) (x2 : Int32) : Option (Int32 × HS) :=
  bd (wI u0 9 0 0 0) fun u101 =>
  (mX9_isLaw u101 x1).bind fun x103 =>
  ((if (x103 = 0) then (some 1)
  else (some 0)) : Option Int32).bind fun x104 =>
  (mX9_bad u101 x104 1).bind fun z106 => bd z106.1 fun x107 => bd z106.2 fun u108 =>
  if (x107 = 0) then ((mX9_in x2 1 9).bind fun x111 =>
  ((if (x111 = 0) then (some 1)
  else (some 0)) : Option Int32).bind fun x112 =>
  (mX9_bad u108 x112 2).bind fun z114 => bd z114.1 fun x115 => bd z114.2 fun u116 =>
  if (x115 = 0) then ((ck 4 x1).bind fun k118 =>
  bd (gI u116 77 0 k118) fun x119 =>
  (ck 4 x1).bind fun k120 =>
  bd (wI u116 77 0 k120 x2) fun u121 =>
  some (x119, u121))
  else (some (0, u116)))
  else (some (0, u108))
def mX9_wrong (u0 : HS) (x1 : Int32) : Option (Int32 × HS) :=
  bd (wI u0 9 0 0 0) fun u101 =>
  (mX9_in x1 1 8).bind fun x103 =>
  ((if (x103 = 0) then (some 1)
  else (some 0)) : Option Int32).bind fun x104 =>
  (mX9_bad u101 x104 1).bind fun z106 => bd z106.1 fun x107 => bd z106.2 fun u108 =>
  if (x107 = 0) then (bd (gI u108 9 0 31) fun x110 =>
  bd (wI u108 9 0 31 x1) fun u111 =>
  some (x110, u111))
  else (some (0, u108))
def mX9_isAsked (u0 : HS) (x1 : Int32) : Option Int32 :=
  (ck 15 x1).bind fun k101 =>
  (ck 8 2).bind fun k102 =>
  if ((gI u0 81 k101 k102) = 0) then ((ck 15 x1).bind fun k104 =>
  (ck 8 3).bind fun k105 =>
  if ((gI u0 81 k104 k105) = (-1)) then (some 0)
  else ((ck 15 x1).bind fun k107 =>
  (ck 8 0).bind fun k108 =>
  (mX9_oddOf u0 (gI u0 81 k107 k108)).bind fun x110 =>
  if (x110 = (-1)) then (some 0)
  else (some 1)))
  else (some 0)
def mX9_isAlike (u0 : HS) (x1 : Int32) (x2 : Int32) : Option (Int32 × HS) :=
  (mX9_saysBy u0 x1 x2 0).bind fun z101 => bd z101.1 fun x102 => bd z101.2 fun u103 =>
  (ck 15 x2).bind fun k104 =>
  (ck 8 3).bind fun k105 =>
  ((if ((gI u103 81 k104 k105) = 1) then (some 1)
  else (some 0)) : Option Int32).bind fun x106 =>
  if (x102 = x106) then (some (1, u103))
  else (some (0, u103))
def mX9_oddsOf_L11 (x1 : Int32) (w108 : Int64 → HS → Option (Int64 × HS)) : Nat → Int64 → Int32 → HS → Option (Int64 × HS)
  | 0, _, _, _ => none
  | fu + 1, y103, x104, u105 =>
    if ((gI u105 9 0 28) ≤ x104) then (w108 y103 u105)
    else ((mX9_isAsked u105 x104).bind fun x111 =>
    jp (fun (y112 : Int64) (u113 : HS) =>
    ((bd (x104 + 1) fun x115 =>
    mX9_oddsOf_L11 x1 w108 fu y112 x115 u113) : Option (Int64 × HS))) fun j114 =>
    if (x111 = 0) then (j114 y103 u105)
    else ((mX9_isAlike u105 x1 x104).bind fun z117 => bd z117.1 fun x118 => bd z117.2 fun u119 =>
    ((if (x118 = 0) then (some ((gI u119 9 0 31).toInt64))
    else (some ((16 - (gI u119 9 0 31)).toInt64))) : Option Int64).bind fun y120 =>
    bd (y103 * y120) fun y122 =>
    j114 y122 u119))
def mX9_oddsOf (u0 : HS) (x1 : Int32) : Option (Int64 × HS) :=
  (ck 4 x1).bind fun k101 =>
  bd ((gI u0 77 0 k101).toInt64) fun y102 =>
  jp (fun (y106 : Int64) (u107 : HS) =>
  ((some (y106, u107)) : Option (Int64 × HS))) fun w108 => mX9_oddsOf_L11 x1 w108 FU y102 0 u0
def mX9_odds (u0 : HS) (x1 : Int32) : Option (Int64 × HS) :=
  bd (wI u0 9 0 0 0) fun u101 =>
  (mX9_isLaw u101 x1).bind fun x103 =>
  ((if (x103 = 0) then (some 1)
  else (some 0)) : Option Int32).bind fun x104 =>
  (mX9_bad u101 x104 1).bind fun z106 => bd z106.1 fun x107 => bd z106.2 fun u108 =>
  if (x107 = 0) then ((mX9_oddsOf u108 x1).bind fun z110 => bd z110.1 fun y111 => bd z110.2 fun u112 =>
  some (y111, u112))
  else (some (0, u108))
def mX9_best_L12  (w108 : Int32 → HS → Option (Int32 × HS)) : Nat → Int32 → Int64 → Int32 → HS → Option (Int32 × HS)
  | 0, _, _, _, _ => none
  | fu + 1, x102, y103, x104, u105 =>
    if ((gI u105 9 0 16) ≤ x104) then (w108 x102 u105)
    else ((mX9_oddsOf u105 x104).bind fun z110 => bd z110.1 fun y111 => bd z110.2 fun u112 =>
    ((if ((lg_cmp y111 y103) ≤ 0) then (some x102)
    else (some x104)) : Option Int32).bind fun x113 =>
    ((if ((lg_cmp y111 y103) ≤ 0) then (some y103)
    else (some y111)) : Option Int64).bind fun y115 =>
    bd (x104 + 1) fun x117 =>
    mX9_best_L12  w108 fu x113 y115 x117 u112)
def mX9_best (u0 : HS) : Option (Int32 × HS) :=
  bd (wI u0 9 0 0 0) fun u101 =>
  jp (fun (x106 : Int32) (u107 : HS) =>
  ((some (x106, u107)) : Option (Int32 × HS))) fun w108 => mX9_best_L12  w108 FU (-1) 0 0 u101
def mX9_fitting_L18 (x102 : Int32) (w113 : Int32 → HS → Option (Int32 × HS)) : Nat → Int32 → Int32 → HS → Option (Int32 × HS)
  | 0, _, _, _ => none
  | fu + 1, x108, x109, u110 =>
    if ((gI u110 9 0 28) ≤ x109) then (w113 x108 u110)
    else ((mX9_isAsked u110 x109).bind fun x121 =>
    jp (fun (x122 : Int32) (u123 : HS) =>
    ((bd (x108 + x122) fun x125 =>
    bd (x109 + 1) fun x126 =>
    mX9_fitting_L18 x102 w113 fu x125 x126 u123) : Option (Int32 × HS))) fun j124 =>
    jp (fun (u127 : HS) =>
    ((j124 0 u127) : Option (Int32 × HS))) fun j128 =>
    if (x121 = 0) then (j128 u110)
    else ((mX9_isAlike u110 x102 x109).bind fun z130 => bd z130.1 fun x131 => bd z130.2 fun u132 =>
    if (x131 = 0) then (j124 1 u132)
    else (j128 u132)))
def mX9_fitting_L4 (x1 : Int32) (w106 : Int32 → HS → Option (Int32 × HS)) : Nat → Int32 → Int32 → HS → Option (Int32 × HS)
  | 0, _, _, _ => none
  | fu + 1, x101, x102, u103 =>
    if ((gI u103 9 0 16) ≤ x102) then (w106 x101 u103)
    else (jp (fun (x111 : Int32) (u112 : HS) =>
    ((((if (x1 < x111) then (some 0)
    else (some ((1 : Int32) <<< (x102 &&& 31)))) : Option Int32).bind fun x114 =>
    bd (x101 ||| x114) fun x116 =>
    bd (x102 + 1) fun x117 =>
    mX9_fitting_L4 x1 w106 fu x116 x117 u112) : Option (Int32 × HS))) fun w113 => mX9_fitting_L18 x102 w113 FU 0 0 u103)
def mX9_fitting (u0 : HS) (x1 : Int32) : Option (Int32 × HS) :=
  jp (fun (x104 : Int32) (u105 : HS) =>
  ((some (x104, u105)) : Option (Int32 × HS))) fun w106 => mX9_fitting_L4 x1 w106 FU 0 0 u0
def mX9_fits (u0 : HS) (x1 : Int32) : Option (Int32 × HS) :=
  bd (wI u0 9 0 0 0) fun u101 =>
  (mX9_in x1 0 14).bind fun x103 =>
  ((if (x103 = 0) then (some 1)
  else (some 0)) : Option Int32).bind fun x104 =>
  (mX9_bad u101 x104 1).bind fun z106 => bd z106.1 fun x107 => bd z106.2 fun u108 =>
  if (x107 = 0) then ((mX9_fitting u108 x1).bind fun z110 => bd z110.1 fun x111 => bd z110.2 fun u112 =>
  some (x111, u112))
  else (some (0, u108))
def mX9_knowing_L55 (x2 : Int32) (x1 : Int32) (w123 : Int32 → HS → Option (Int32 × HS)) : Nat → Int32 → Int32 → HS → Option (Int32 × HS)
  | 0, _, _, _ => none
  | fu + 1, x118, x119, u120 =>
    if ((gI u120 9 0 28) ≤ x119) then (w123 x118 u120)
    else ((ck 15 x119).bind fun k125 =>
    (ck 8 2).bind fun k126 =>
    jp (fun (x127 : Int32) (u128 : HS) =>
    ((bd (x119 + 1) fun x130 =>
    mX9_knowing_L55 x2 x1 w123 fu x127 x130 u128) : Option (Int32 × HS))) fun j129 =>
    if ((gI u120 81 k125 k126) = 0) then (j129 x118 u120)
    else (jp (fun (u132 : HS) =>
    ((jp (fun (x134 : Int32) (u135 : HS) =>
    ((bd (x118 + x134) fun x137 =>
    j129 x137 u135) : Option (Int32 × HS))) fun j136 =>
    jp (fun (u138 : HS) =>
    ((j136 1 u138) : Option (Int32 × HS))) fun j139 =>
    if (x2 < 2) then (j139 u132)
    else ((mX9_changeOf u132 x1 x119).bind fun z141 => bd z141.1 fun x142 => bd z141.2 fun u143 =>
    if (x142 = (-1)) then (j139 u143)
    else (j136 0 u143))) : Option (Int32 × HS))) fun j133 =>
    if (x2 ≤ 0) then (j133 u120)
    else ((mX9_saysBy u120 x1 x119 0).bind fun z146 => bd z146.1 fun x147 => bd z146.2 fun u148 =>
    if (x147 = 0) then (j129 x118 u148)
    else (j133 u148))))
def mX9_knowing (u0 : HS) (x1 : Int32) (x2 : Int32) : Option (Int32 × HS) :=
  bd (wI u0 9 0 0 0) fun u101 =>
  (mX9_isLaw u101 x1).bind fun x103 =>
  ((if (x103 = 0) then (some 1)
  else (some 0)) : Option Int32).bind fun x104 =>
  (mX9_bad u101 x104 1).bind fun z106 => bd z106.1 fun x107 => bd z106.2 fun u108 =>
  if (x107 = 0) then ((mX9_in x2 0 2).bind fun x111 =>
  ((if (x111 = 0) then (some 1)
  else (some 0)) : Option Int32).bind fun x112 =>
  (mX9_bad u108 x112 2).bind fun z114 => bd z114.1 fun x115 => bd z114.2 fun u116 =>
  if (x115 = 0) then (jp (fun (x121 : Int32) (u122 : HS) =>
  ((some (x121, u122)) : Option (Int32 × HS))) fun w123 => mX9_knowing_L55 x2 x1 w123 FU 0 0 u116)
  else (some (0, u116)))
  else (some (0, u108))
def mX9_crossing_L108 (x127 : Int32) (x3 : Int32) (w138 : Int32 → Int32 → HS → Option (Int32 × HS)) : Nat → Int32 → Int32 → Int32 → HS → Option (Int32 × HS)
  | 0, _, _, _, _ => none
  | fu + 1, x131, x132, x133, u134 =>
    if ((gI u134 9 0 16) ≤ x133) then (w138 x131 x132 u134)
    else (jp (fun (x143 : Int32) (x144 : Int32) (u145 : HS) =>
    ((bd (x133 + 1) fun x147 =>
    mX9_crossing_L108 x127 x3 w138 fu x143 x144 x147 u145) : Option (Int32 × HS))) fun j146 =>
    if (((x127 >>> (x133 &&& 31)) &&& 1) = 0) then (j146 x131 x132 u134)
    else ((mX9_saysBy u134 x133 14 x3).bind fun z149 => bd z149.1 fun x150 => bd z149.2 fun u151 =>
    if (x150 = 0) then (bd (x132 + 1) fun x153 =>
    j146 x131 x153 u151)
    else (bd (x131 + 1) fun x154 =>
    j146 x154 x132 u151)))
def mX9_crossing (u0 : HS) (x1 : Int32) (x2 : Int32) (x3 : Int32) (x4 : Int32) : Option (Int32 × HS) :=
  bd (wI u0 9 0 0 0) fun u101 =>
  (mX9_isScene u101 x1).bind fun x103 =>
  ((if (x103 = 0) then (some 1)
  else (some 0)) : Option Int32).bind fun x104 =>
  (mX9_bad u101 x104 1).bind fun z106 => bd z106.1 fun x107 => bd z106.2 fun u108 =>
  if (x107 = 0) then ((mX9_isTask u108 x2).bind fun x111 =>
  ((if (x111 = 0) then (some 1)
  else (some 0)) : Option Int32).bind fun x112 =>
  (mX9_bad u108 x112 2).bind fun z114 => bd z114.1 fun x115 => bd z114.2 fun u116 =>
  if (x115 = 0) then ((mX9_in x3 0 2).bind fun x119 =>
  ((jp (((some 1) : Option Int32)) fun j155 =>
  if (x119 = 0) then (j155)
  else ((mX9_in x4 0 14).bind fun x158 =>
  if (x158 = 0) then (j155)
  else (some 0))) : Option Int32).bind fun x120 =>
  (mX9_bad u116 x120 3).bind fun z122 => bd z122.1 fun x123 => bd z122.2 fun u124 =>
  if (x123 = 0) then ((mX9_fitting u124 x4).bind fun z126 => bd z126.1 fun x127 => bd z126.2 fun u128 =>
  (mX9_comes u128 14 x1 x2 0).bind fun u130 =>
  jp (fun (x135 : Int32) (x136 : Int32) (u137 : HS) =>
  ((if (x127 = 0) then (some (0, u137))
  else (if (x135 = 0) then (some (1, u137))
  else (if (x136 = 0) then (some (2, u137))
  else (some (3, u137))))) : Option (Int32 × HS))) fun w138 => mX9_crossing_L108 x127 x3 w138 FU 0 0 0 u130)
  else (some (0, u124)))
  else (some (0, u116)))
  else (some (0, u108))
def mX9_moves (u0 : HS) (x1 : Int32) (x2 : Int32) (x3 : Int32) : Option (Int32 × HS) :=
  ((if (x3 = 0) then ((ck 3 x1).bind fun k107 =>
  (ck 520 (gI u0 9 0 37)).bind fun k108 =>
  bd (wI u0 87 k107 k108 x2) fun u109 =>
  some u109)
  else (some u0)) : Option HS).bind fun u101 =>
  bd (wI u101 9 0 37 ((gI u101 9 0 37) + 1)) fun u103 =>
  (ck 3 x1).bind fun k104 =>
  (ck 520 ((gI u103 9 0 37) - 1)).bind fun k105 =>
  some (gI u103 87 k104 k105, u103)
def mX9_movesRow_77_L3 (x1 : Int32) (x3 : Int32) (w104 : HS → Option HS) : Nat → Int32 → HS → Option HS
  | 0, _, _ => none
  | fu + 1, x101, u102 =>
    if ((Nat.toInt32 4) ≤ x101) then (w104 u102)
    else ((ck 4 x101).bind fun k106 =>
    (mX9_moves u102 x1 (gI u102 77 0 k106) x3).bind fun z107 => bd z107.1 fun x108 => bd z107.2 fun u109 =>
    (ck 4 x101).bind fun k110 =>
    bd (wI u109 77 0 k110 x108) fun u111 =>
    bd (x101 + 1) fun x112 =>
    mX9_movesRow_77_L3 x1 x3 w104 fu x112 u111)
def mX9_movesRow_77 (u0 : HS) (x1 : Int32) (x3 : Int32) : Option HS :=
  jp (fun (u103 : HS) =>
  ((some u103) : Option HS)) fun w104 => mX9_movesRow_77_L3 x1 x3 w104 FU 0 u0
def mX9_movesRow_81_L3 (x1 : Int32) (i2 : Nat) (x3 : Int32) (w104 : HS → Option HS) : Nat → Int32 → HS → Option HS
  | 0, _, _ => none
  | fu + 1, x101, u102 =>
    if ((Nat.toInt32 8) ≤ x101) then (w104 u102)
    else ((ck 8 x101).bind fun k106 =>
    (mX9_moves u102 x1 (gI u102 81 i2 k106) x3).bind fun z107 => bd z107.1 fun x108 => bd z107.2 fun u109 =>
    (ck 8 x101).bind fun k110 =>
    bd (wI u109 81 i2 k110 x108) fun u111 =>
    bd (x101 + 1) fun x112 =>
    mX9_movesRow_81_L3 x1 i2 x3 w104 fu x112 u111)
def mX9_movesRow_81 (u0 : HS) (x1 : Int32) (i2 : Nat) (x3 : Int32) : Option HS :=
  jp (fun (u103 : HS) =>
  ((some u103) : Option HS)) fun w104 => mX9_movesRow_81_L3 x1 i2 x3 w104 FU 0 u0
def mX9_movesRow_83_L3 (x1 : Int32) (i2 : Nat) (x3 : Int32) (w104 : HS → Option HS) : Nat → Int32 → HS → Option HS
  | 0, _, _ => none
  | fu + 1, x101, u102 =>
    if ((Nat.toInt32 4) ≤ x101) then (w104 u102)
    else ((ck 4 x101).bind fun k106 =>
    (mX9_moves u102 x1 (gI u102 83 i2 k106) x3).bind fun z107 => bd z107.1 fun x108 => bd z107.2 fun u109 =>
    (ck 4 x101).bind fun k110 =>
    bd (wI u109 83 i2 k110 x108) fun u111 =>
    bd (x101 + 1) fun x112 =>
    mX9_movesRow_83_L3 x1 i2 x3 w104 fu x112 u111)
def mX9_movesRow_83 (u0 : HS) (x1 : Int32) (i2 : Nat) (x3 : Int32) : Option HS :=
  jp (fun (u103 : HS) =>
  ((some u103) : Option HS)) fun w104 => mX9_movesRow_83_L3 x1 i2 x3 w104 FU 0 u0
def mX9_movesRow_85_L3 (x1 : Int32) (i2 : Nat) (x3 : Int32) (w104 : HS → Option HS) : Nat → Int32 → HS → Option HS
  | 0, _, _ => none
  | fu + 1, x101, u102 =>
    if ((Nat.toInt32 3) ≤ x101) then (w104 u102)
    else ((ck 3 x101).bind fun k106 =>
    (mX9_moves u102 x1 (gI u102 85 i2 k106) x3).bind fun z107 => bd z107.1 fun x108 => bd z107.2 fun u109 =>
    (ck 3 x101).bind fun k110 =>
    bd (wI u109 85 i2 k110 x108) fun u111 =>
    bd (x101 + 1) fun x112 =>
    mX9_movesRow_85_L3 x1 i2 x3 w104 fu x112 u111)
def mX9_movesRow_85 (u0 : HS) (x1 : Int32) (i2 : Nat) (x3 : Int32) : Option HS :=
  jp (fun (u103 : HS) =>
  ((some u103) : Option HS)) fun w104 => mX9_movesRow_85_L3 x1 i2 x3 w104 FU 0 u0
def mX9_movesAll_L170 (x1 : Int32) (x2 : Int32) (w138 : HS → Option HS) : Nat → Int32 → HS → Option HS
  | 0, _, _ => none
  | fu + 1, x135, u136 =>
    if (40 ≤ x135) then (w138 u136)
    else ((ck 40 x135).bind fun k140 =>
    (mX9_movesRow_85 u136 x1 k140 x2).bind fun u142 =>
    bd (x135 + 1) fun x143 =>
    mX9_movesAll_L170 x1 x2 w138 fu x143 u142)
def mX9_movesAll_L141 (x1 : Int32) (x2 : Int32) (w134 : HS → Option HS) : Nat → Int32 → HS → Option HS
  | 0, _, _ => none
  | fu + 1, x131, u132 =>
    if (60 ≤ x131) then (w134 u132)
    else ((ck 60 x131).bind fun k145 =>
    (mX9_movesRow_83 u132 x1 k145 x2).bind fun u147 =>
    bd (x131 + 1) fun x148 =>
    mX9_movesAll_L141 x1 x2 w134 fu x148 u147)
def mX9_movesAll_L112 (x1 : Int32) (x2 : Int32) (w130 : HS → Option HS) : Nat → Int32 → HS → Option HS
  | 0, _, _ => none
  | fu + 1, x127, u128 =>
    if (14 ≤ x127) then (w130 u128)
    else ((ck 15 x127).bind fun k150 =>
    (mX9_movesRow_81 u128 x1 k150 x2).bind fun u152 =>
    bd (x127 + 1) fun x153 =>
    mX9_movesAll_L112 x1 x2 w130 fu x153 u152)
def mX9_movesAll_L85 (x2 : Int32) (w126 : HS → Option HS) : Nat → Int32 → HS → Option HS
  | 0, _, _ => none
  | fu + 1, x123, u124 =>
    if (4 ≤ x123) then (w126 u124)
    else (if (x2 = 0) then (w126 u124)
    else ((ck 4 x123).bind fun k156 =>
    bd (wI u124 77 0 k156 1) fun u157 =>
    bd (x123 + 1) fun x158 =>
    mX9_movesAll_L85 x2 w126 fu x158 u157))
def mX9_movesAll (u0 : HS) (x1 : Int32) (x2 : Int32) : Option HS :=
  bd (wI u0 9 0 37 0) fun u101 =>
  (mX9_moves u101 x1 (gI u101 9 0 28) x2).bind fun z102 => bd z102.1 fun x103 => bd z102.2 fun u104 =>
  bd (wI u104 9 0 28 x103) fun u105 =>
  (mX9_moves u105 x1 (gI u105 9 0 29) x2).bind fun z106 => bd z106.1 fun x107 => bd z106.2 fun u108 =>
  bd (wI u108 9 0 29 x107) fun u109 =>
  (mX9_moves u109 x1 (gI u109 9 0 30) x2).bind fun z110 => bd z110.1 fun x111 => bd z110.2 fun u112 =>
  bd (wI u112 9 0 30 x111) fun u113 =>
  (mX9_moves u113 x1 (gI u113 9 0 31) x2).bind fun z114 => bd z114.1 fun x115 => bd z114.2 fun u116 =>
  bd (wI u116 9 0 31 x115) fun u117 =>
  (mX9_moves u117 x1 (gI u117 9 0 16) x2).bind fun z118 => bd z118.1 fun x119 => bd z118.2 fun u120 =>
  (mX9_movesRow_77 u120 x1 x2).bind fun u122 =>
  jp (fun (u125 : HS) =>
  ((jp (fun (u129 : HS) =>
  ((jp (fun (u133 : HS) =>
  ((jp (fun (u137 : HS) =>
  ((some u137) : Option HS)) fun w138 => mX9_movesAll_L170 x1 x2 w138 FU 0 u133) : Option HS)) fun w134 => mX9_movesAll_L141 x1 x2 w134 FU 0 u129) : Option HS)) fun w130 => mX9_movesAll_L112 x1 x2 w130 FU 0 u125) : Option HS)) fun w126 => mX9_movesAll_L85 x2 w126 FU x119 u122
def mX9_image (u0 : HS) : Option (Int32 × HS) :=
  bd (wI u0 9 0 0 0) fun u101 =>
  if ((gI u101 9 0 32) = 3) then (some ((-1), u101))
  else ((mX9_movesAll u101 (gI u101 9 0 32) 0).bind fun u104 =>
  bd (wI u104 9 0 32 ((gI u104 9 0 32) + 1)) fun u105 =>
  some (gI u105 9 0 32, u105))
def mX9_restore (u0 : HS) : Option (Int32 × HS) :=
  bd (wI u0 9 0 0 0) fun u101 =>
  if ((gI u101 9 0 32) = 0) then (some ((-1), u101))
  else (bd (wI u101 9 0 32 ((gI u101 9 0 32) - 1)) fun u103 =>
  (mX9_movesAll u103 (gI u103 9 0 32) 1).bind fun u105 =>
  some (gI u105 9 0 32, u105))
def mX9_count (u0 : HS) (x1 : Int32) : Option (Int32 × HS) :=
  bd (wI u0 9 0 0 0) fun u101 =>
  if (x1 = 0) then (some (gI u101 9 0 14, u101))
  else if (x1 = 1) then (some (gI u101 9 0 15, u101))
  else if (x1 = 2) then (some (gI u101 9 0 16, u101))
  else if (x1 = 3) then (some (gI u101 9 0 28, u101))
  else if (x1 = 4) then (some (gI u101 9 0 29, u101))
  else if (x1 = 5) then (some (gI u101 9 0 30, u101))
  else if (x1 = 6) then (some (gI u101 9 0 32, u101))
  else if (x1 = 7) then (some (gI u101 9 0 1, u101))
  else if (x1 = 8) then (some (gI u101 9 0 31, u101))
  else (some ((-1), u101))
def mX9_unit_b (g_unit : HS → Option HS) (g_product : HS → Option HS) (g_sum : HS → Option HS) (g_test : HS → Option HS) (g_ands : HS → Option HS) (g_ors : HS → Option HS) (u0 : HS) : Option HS :=
  if ((gI u0 9 0 6) = 0) then ((mX9_blanks u0).bind fun u103 =>
  (mX9_byteAt u103 (gI u103 9 0 4)).bind fun x105 =>
  (mX9_isDigit x105).bind fun x107 =>
  if (x107 = 0) then ((mX9_nameHere u103).bind fun z109 => bd z109.1 fun x110 => bd z109.2 fun u111 =>
  if (x110 = (-1)) then ((mX9_isWord u111 12 5 1 19 20 0).bind fun z113 => bd z113.1 fun x114 => bd z113.2 fun u115 =>
  jp (fun (x116 : Int32) (u117 : HS) =>
  ((((if (x116 = 0) then (some u117)
  else ((mX9_skipWord u117).bind fun u147 =>
  some u147)) : Option HS).bind fun u119 =>
  (mX9_blanks u119).bind fun u122 =>
  (mX9_byteAt u122 (gI u122 9 0 4)).bind fun x124 =>
  if (x124 = 40) then ((mX9_opens u122 1).bind fun u127 =>
  (g_sum u127).bind fun u129 =>
  ((if (x116 = 0) then (some u129)
  else ((mX9_sign u129 44).bind fun u140 =>
  (g_sum u140).bind fun u142 =>
  some u142)) : Option HS).bind fun u130 =>
  (mX9_sign u130 41).bind fun u133 =>
  bd (wI u133 9 0 5 ((gI u133 9 0 5) - 1)) fun u134 =>
  if (x116 = 0) then (some u134)
  else ((mX9_tells u134 x116).bind fun u137 =>
  some u137))
  else ((mX9_wrongAt u122 1 (gI u122 9 0 4)).bind fun u144 =>
  some u144)) : Option HS)) fun j118 =>
  if (x114 = 0) then ((mX9_isWord u115 13 15 19 20 0 0).bind fun z149 => bd z149.1 fun x150 => bd z149.2 fun u151 =>
  if (x150 = 0) then (j118 0 u151)
  else (j118 10025 u151))
  else (j118 10024 u115))
  else ((mX9_skipWord u111).bind fun u154 =>
  (mX9_tells u154 (10000 + x110)).bind fun u156 =>
  some u156))
  else ((mX9_number u103 0 9999 (-1)).bind fun z157 => bd z157.1 fun x158 => bd z157.2 fun u159 =>
  (mX9_tells u159 x158).bind fun u161 =>
  some u161))
  else (some u0)
def mX9_product_b_L8 (g_unit : HS → Option HS) (g_product : HS → Option HS) (g_sum : HS → Option HS) (g_test : HS → Option HS) (g_ands : HS → Option HS) (g_ors : HS → Option HS)  (w107 : HS → Option HS) : Nat → HS → Option HS
  | 0, _ => none
  | fu + 1, u105 =>
    if ((gI u105 9 0 6) = 0) then ((mX9_byteAt u105 (gI u105 9 0 4)).bind fun x110 =>
    jp ((((mX9_byteAt u105 (gI u105 9 0 4)).bind fun x113 =>
    bd (wI u105 9 0 4 ((gI u105 9 0 4) + 1)) fun u114 =>
    (g_unit u114).bind fun u116 =>
    ((if (x113 = 42) then (some 10022)
    else (some 10023)) : Option Int32).bind fun x117 =>
    (mX9_tells u116 x117).bind fun u120 =>
    (mX9_blanks u120).bind fun u122 =>
    mX9_product_b_L8 g_unit g_product g_sum g_test g_ands g_ors  w107 fu u122) : Option HS)) fun j111 =>
    if (x110 = 42) then (j111)
    else ((mX9_byteAt u105 (gI u105 9 0 4)).bind fun x126 =>
    if (x126 = 47) then (j111)
    else (w107 u105)))
    else (w107 u105)
def mX9_product_b (g_unit : HS → Option HS) (g_product : HS → Option HS) (g_sum : HS → Option HS) (g_test : HS → Option HS) (g_ands : HS → Option HS) (g_ors : HS → Option HS) (u0 : HS) : Option HS :=
  (g_unit u0).bind fun u102 =>
  (mX9_blanks u102).bind fun u104 =>
  jp (fun (u106 : HS) =>
  ((some u106) : Option HS)) fun w107 => mX9_product_b_L8 g_unit g_product g_sum g_test g_ands g_ors  w107 FU u104
def mX9_sum_b_L8 (g_unit : HS → Option HS) (g_product : HS → Option HS) (g_sum : HS → Option HS) (g_test : HS → Option HS) (g_ands : HS → Option HS) (g_ors : HS → Option HS)  (w107 : HS → Option HS) : Nat → HS → Option HS
  | 0, _ => none
  | fu + 1, u105 =>
    if ((gI u105 9 0 6) = 0) then ((mX9_byteAt u105 (gI u105 9 0 4)).bind fun x110 =>
    jp ((((mX9_byteAt u105 (gI u105 9 0 4)).bind fun x113 =>
    bd (wI u105 9 0 4 ((gI u105 9 0 4) + 1)) fun u114 =>
    (g_product u114).bind fun u116 =>
    ((if (x113 = 43) then (some 10020)
    else (some 10021)) : Option Int32).bind fun x117 =>
    (mX9_tells u116 x117).bind fun u120 =>
    (mX9_blanks u120).bind fun u122 =>
    mX9_sum_b_L8 g_unit g_product g_sum g_test g_ands g_ors  w107 fu u122) : Option HS)) fun j111 =>
    if (x110 = 43) then (j111)
    else ((mX9_byteAt u105 (gI u105 9 0 4)).bind fun x126 =>
    if (x126 = 45) then (j111)
    else (w107 u105)))
    else (w107 u105)
def mX9_sum_b (g_unit : HS → Option HS) (g_product : HS → Option HS) (g_sum : HS → Option HS) (g_test : HS → Option HS) (g_ands : HS → Option HS) (g_ors : HS → Option HS) (u0 : HS) : Option HS :=
  (g_product u0).bind fun u102 =>
  (mX9_blanks u102).bind fun u104 =>
  jp (fun (u106 : HS) =>
  ((some u106) : Option HS)) fun w107 => mX9_sum_b_L8 g_unit g_product g_sum g_test g_ands g_ors  w107 FU u104
def mX9_test_b (g_unit : HS → Option HS) (g_product : HS → Option HS) (g_sum : HS → Option HS) (g_test : HS → Option HS) (g_ands : HS → Option HS) (g_ors : HS → Option HS) (u0 : HS) : Option HS :=
  if ((gI u0 9 0 6) = 0) then ((mX9_isWord u0 14 15 20 0 0 0).bind fun z102 => bd z102.1 fun x103 => bd z102.2 fun u104 =>
  if (x103 = 0) then ((mX9_byteAt u104 (gI u104 9 0 4)).bind fun x107 =>
  if (x107 = 91) then ((mX9_opens u104 1).bind fun u133 =>
  (g_ors u133).bind fun u135 =>
  (mX9_sign u135 93).bind fun u137 =>
  bd (wI u137 9 0 5 ((gI u137 9 0 5) - 1)) fun u138 =>
  some u138)
  else ((g_sum u104).bind fun u110 =>
  if ((gI u110 9 0 6) = 0) then ((mX9_blanks u110).bind fun u113 =>
  (mX9_byteAt u113 (gI u113 9 0 4)).bind fun x115 =>
  ((if (x115 = 60) then (some u113)
  else (if (x115 = 62) then (some u113)
  else (if (x115 = 61) then (some u113)
  else ((mX9_wrongAt u113 1 (gI u113 9 0 4)).bind fun u131 =>
  some u131)))) : Option HS).bind fun u116 =>
  bd (wI u116 9 0 4 ((gI u116 9 0 4) + 1)) fun u118 =>
  (g_sum u118).bind fun u120 =>
  ((if (x115 = 60) then (some 10030)
  else (if (x115 = 62) then (some 10031)
  else (some 10032))) : Option Int32).bind fun x121 =>
  (mX9_tells u120 x121).bind fun u124 =>
  some u124)
  else (some u110)))
  else ((mX9_opens u104 3).bind fun u140 =>
  (g_test u140).bind fun u142 =>
  bd (wI u142 9 0 5 ((gI u142 9 0 5) - 1)) fun u143 =>
  (mX9_tells u143 10033).bind fun u145 =>
  some u145))
  else (some u0)
def mX9_ands_b_L4 (g_unit : HS → Option HS) (g_product : HS → Option HS) (g_sum : HS → Option HS) (g_test : HS → Option HS) (g_ands : HS → Option HS) (g_ors : HS → Option HS)  (w105 : HS → Option HS) : Nat → HS → Option HS
  | 0, _ => none
  | fu + 1, u103 =>
    (mX9_isWord u103 1 14 4 0 0 0).bind fun z106 => bd z106.1 fun x107 => bd z106.2 fun u108 =>
    if (x107 = 0) then (w105 u108)
    else ((mX9_skipWord u108).bind fun u111 =>
    (g_test u111).bind fun u113 =>
    (mX9_tells u113 10034).bind fun u115 =>
    mX9_ands_b_L4 g_unit g_product g_sum g_test g_ands g_ors  w105 fu u115)
def mX9_ands_b (g_unit : HS → Option HS) (g_product : HS → Option HS) (g_sum : HS → Option HS) (g_test : HS → Option HS) (g_ands : HS → Option HS) (g_ors : HS → Option HS) (u0 : HS) : Option HS :=
  (g_test u0).bind fun u102 =>
  jp (fun (u104 : HS) =>
  ((some u104) : Option HS)) fun w105 => mX9_ands_b_L4 g_unit g_product g_sum g_test g_ands g_ors  w105 FU u102
def mX9_ors_b_L4 (g_unit : HS → Option HS) (g_product : HS → Option HS) (g_sum : HS → Option HS) (g_test : HS → Option HS) (g_ands : HS → Option HS) (g_ors : HS → Option HS)  (w105 : HS → Option HS) : Nat → HS → Option HS
  | 0, _ => none
  | fu + 1, u103 =>
    (mX9_isWord u103 15 18 0 0 0 0).bind fun z106 => bd z106.1 fun x107 => bd z106.2 fun u108 =>
    if (x107 = 0) then (w105 u108)
    else ((mX9_skipWord u108).bind fun u111 =>
    (g_ands u111).bind fun u113 =>
    (mX9_tells u113 10035).bind fun u115 =>
    mX9_ors_b_L4 g_unit g_product g_sum g_test g_ands g_ors  w105 fu u115)
def mX9_ors_b (g_unit : HS → Option HS) (g_product : HS → Option HS) (g_sum : HS → Option HS) (g_test : HS → Option HS) (g_ands : HS → Option HS) (g_ors : HS → Option HS) (u0 : HS) : Option HS :=
  (g_ands u0).bind fun u102 =>
  jp (fun (u104 : HS) =>
  ((some u104) : Option HS)) fun w105 => mX9_ors_b_L4 g_unit g_product g_sum g_test g_ands g_ors  w105 FU u102
def DR : Nat := 64
def recX9 : Nat → Nat → HS → Option HS
  | 0, _, _ => none
  | d + 1, w, u =>
    if w = 0 then mX9_unit_b (recX9 d 0) (recX9 d 1) (recX9 d 2) (recX9 d 3) (recX9 d 4) (recX9 d 5) u
    else if w = 1 then mX9_product_b (recX9 d 0) (recX9 d 1) (recX9 d 2) (recX9 d 3) (recX9 d 4) (recX9 d 5) u
    else if w = 2 then mX9_sum_b (recX9 d 0) (recX9 d 1) (recX9 d 2) (recX9 d 3) (recX9 d 4) (recX9 d 5) u
    else if w = 3 then mX9_test_b (recX9 d 0) (recX9 d 1) (recX9 d 2) (recX9 d 3) (recX9 d 4) (recX9 d 5) u
    else if w = 4 then mX9_ands_b (recX9 d 0) (recX9 d 1) (recX9 d 2) (recX9 d 3) (recX9 d 4) (recX9 d 5) u
    else mX9_ors_b (recX9 d 0) (recX9 d 1) (recX9 d 2) (recX9 d 3) (recX9 d 4) (recX9 d 5) u
def mX9_unit (u0 : HS) : Option HS := recX9 DR 0 u0
def mX9_product (u0 : HS) : Option HS := recX9 DR 1 u0
def mX9_sum (u0 : HS) : Option HS := recX9 DR 2 u0
def mX9_test (u0 : HS) : Option HS := recX9 DR 3 u0
def mX9_ands (u0 : HS) : Option HS := recX9 DR 4 u0
def mX9_ors (u0 : HS) : Option HS := recX9 DR 5 u0
def mX2_readSum_b_L7 (g_readSum : HS → Int32 → Option HS) (g_readProduct : HS → Int32 → Option HS) (g_readUnit : HS → Int32 → Option HS) (g_readEither : HS → Int32 → Option HS) (g_readBoth : HS → Int32 → Option HS) (g_readOne : HS → Int32 → Option HS) (x1 : Int32) (w106 : HS → Option HS) : Nat → Int32 → HS → Option HS
  | 0, _, _ => none
  | fu + 1, x103, u104 =>
    if (400 ≤ x103) then (w106 u104)
    else ((mX5_takeSign u104 12).bind fun z108 => bd z108.1 fun x109 => bd z108.2 fun u110 =>
    if (x109 = (-1)) then (some u110)
    else ((g_readProduct u110 x1).bind fun u113 =>
    (mX1_emit u113 (gR u113 0) ((-20) - x109)).bind fun u116 =>
    bd (x103 + 1) fun x117 =>
    mX2_readSum_b_L7 g_readSum g_readProduct g_readUnit g_readEither g_readBoth g_readOne x1 w106 fu x117 u116))
def mX2_readSum_b (g_readSum : HS → Int32 → Option HS) (g_readProduct : HS → Int32 → Option HS) (g_readUnit : HS → Int32 → Option HS) (g_readEither : HS → Int32 → Option HS) (g_readBoth : HS → Int32 → Option HS) (g_readOne : HS → Int32 → Option HS) (u0 : HS) (x1 : Int32) : Option HS :=
  (g_readProduct u0 x1).bind fun u102 =>
  jp (fun (u105 : HS) =>
  ((some u105) : Option HS)) fun w106 => mX2_readSum_b_L7 g_readSum g_readProduct g_readUnit g_readEither g_readBoth g_readOne x1 w106 FU 0 u102
def mX2_readProduct_b_L7 (g_readSum : HS → Int32 → Option HS) (g_readProduct : HS → Int32 → Option HS) (g_readUnit : HS → Int32 → Option HS) (g_readEither : HS → Int32 → Option HS) (g_readBoth : HS → Int32 → Option HS) (g_readOne : HS → Int32 → Option HS) (x1 : Int32) (w106 : HS → Option HS) : Nat → Int32 → HS → Option HS
  | 0, _, _ => none
  | fu + 1, x103, u104 =>
    if (400 ≤ x103) then (w106 u104)
    else ((mX5_takeSign u104 13).bind fun z108 => bd z108.1 fun x109 => bd z108.2 fun u110 =>
    if (x109 = (-1)) then (some u110)
    else ((g_readUnit u110 x1).bind fun u113 =>
    (mX1_emit u113 (gR u113 0) ((-22) - x109)).bind fun u116 =>
    bd (x103 + 1) fun x117 =>
    mX2_readProduct_b_L7 g_readSum g_readProduct g_readUnit g_readEither g_readBoth g_readOne x1 w106 fu x117 u116))
def mX2_readProduct_b (g_readSum : HS → Int32 → Option HS) (g_readProduct : HS → Int32 → Option HS) (g_readUnit : HS → Int32 → Option HS) (g_readEither : HS → Int32 → Option HS) (g_readBoth : HS → Int32 → Option HS) (g_readOne : HS → Int32 → Option HS) (u0 : HS) (x1 : Int32) : Option HS :=
  (g_readUnit u0 x1).bind fun u102 =>
  jp (fun (u105 : HS) =>
  ((some u105) : Option HS)) fun w106 => mX2_readProduct_b_L7 g_readSum g_readProduct g_readUnit g_readEither g_readBoth g_readOne x1 w106 FU 0 u102
def mX2_readUnit_b (g_readSum : HS → Int32 → Option HS) (g_readProduct : HS → Int32 → Option HS) (g_readUnit : HS → Int32 → Option HS) (g_readEither : HS → Int32 → Option HS) (g_readBoth : HS → Int32 → Option HS) (g_readOne : HS → Int32 → Option HS) (u0 : HS) (x1 : Int32) : Option HS :=
  (mX5_isNumberNext u0).bind fun z101 => bd z101.1 fun x102 => bd z101.2 fun u103 =>
  if (x102 = 0) then ((mX5_takeWord u103 14).bind fun z105 => bd z105.1 fun x106 => bd z105.2 fun u107 =>
  if (x106 = (-1)) then ((mX5_takeWord u107 15).bind fun z109 => bd z109.1 fun x110 => bd z109.2 fun u111 =>
  (mX5_demandSign u111 1).bind fun z112 => bd z112.1 fun x113 => bd z112.2 fun u114 =>
  if (x113 = (-1)) then (some u114)
  else ((mX2_isTooDeep u114 x1).bind fun z116 => bd z116.1 fun x117 => bd z116.2 fun u118 =>
  if (x117 = 0) then ((g_readSum u118 (x1 + 1)).bind fun u121 =>
  ((if (x110 = (-1)) then (some u121)
  else ((mX5_demandSign u121 2).bind fun z128 => bd z128.1 fun x129 => bd z128.2 fun u130 =>
  (g_readSum u130 (x1 + 1)).bind fun u132 =>
  (mX1_emit u132 (gR u132 0) ((-24) - x110)).bind fun u135 =>
  some u135)) : Option HS).bind fun u122 =>
  (mX5_demandSign u122 3).bind fun z124 => bd z124.1 fun x125 => bd z124.2 fun u126 =>
  some u126)
  else (some u118)))
  else ((mX1_emit u107 (gR u107 0) ((-1) - x106)).bind fun u138 =>
  some u138))
  else ((mX5_demandNumber u103 0 9999).bind fun z140 => bd z140.1 fun x141 => bd z140.2 fun u142 =>
  (mX1_emit u142 (gR u103 0) x141).bind fun u144 =>
  some u144)
def mX2_readEither_b_L7 (g_readSum : HS → Int32 → Option HS) (g_readProduct : HS → Int32 → Option HS) (g_readUnit : HS → Int32 → Option HS) (g_readEither : HS → Int32 → Option HS) (g_readBoth : HS → Int32 → Option HS) (g_readOne : HS → Int32 → Option HS) (x1 : Int32) (w106 : HS → Option HS) : Nat → Int32 → HS → Option HS
  | 0, _, _ => none
  | fu + 1, x103, u104 =>
    if (400 ≤ x103) then (w106 u104)
    else ((mX5_takeWord u104 4).bind fun z108 => bd z108.1 fun x109 => bd z108.2 fun u110 =>
    if (x109 = 0) then ((g_readBoth u110 x1).bind fun u113 =>
    (mX1_emit u113 (gR u113 0) (-30)).bind fun u116 =>
    bd (x103 + 1) fun x117 =>
    mX2_readEither_b_L7 g_readSum g_readProduct g_readUnit g_readEither g_readBoth g_readOne x1 w106 fu x117 u116)
    else (w106 u110))
def mX2_readEither_b (g_readSum : HS → Int32 → Option HS) (g_readProduct : HS → Int32 → Option HS) (g_readUnit : HS → Int32 → Option HS) (g_readEither : HS → Int32 → Option HS) (g_readBoth : HS → Int32 → Option HS) (g_readOne : HS → Int32 → Option HS) (u0 : HS) (x1 : Int32) : Option HS :=
  (g_readBoth u0 x1).bind fun u102 =>
  jp (fun (u105 : HS) =>
  ((some u105) : Option HS)) fun w106 => mX2_readEither_b_L7 g_readSum g_readProduct g_readUnit g_readEither g_readBoth g_readOne x1 w106 FU 0 u102
def mX2_readBoth_b_L7 (g_readSum : HS → Int32 → Option HS) (g_readProduct : HS → Int32 → Option HS) (g_readUnit : HS → Int32 → Option HS) (g_readEither : HS → Int32 → Option HS) (g_readBoth : HS → Int32 → Option HS) (g_readOne : HS → Int32 → Option HS) (x1 : Int32) (w106 : HS → Option HS) : Nat → Int32 → HS → Option HS
  | 0, _, _ => none
  | fu + 1, x103, u104 =>
    if (400 ≤ x103) then (w106 u104)
    else ((mX5_takeWord u104 5).bind fun z108 => bd z108.1 fun x109 => bd z108.2 fun u110 =>
    if (x109 = 0) then ((g_readOne u110 x1).bind fun u113 =>
    (mX1_emit u113 (gR u113 0) (-29)).bind fun u116 =>
    bd (x103 + 1) fun x117 =>
    mX2_readBoth_b_L7 g_readSum g_readProduct g_readUnit g_readEither g_readBoth g_readOne x1 w106 fu x117 u116)
    else (w106 u110))
def mX2_readBoth_b (g_readSum : HS → Int32 → Option HS) (g_readProduct : HS → Int32 → Option HS) (g_readUnit : HS → Int32 → Option HS) (g_readEither : HS → Int32 → Option HS) (g_readBoth : HS → Int32 → Option HS) (g_readOne : HS → Int32 → Option HS) (u0 : HS) (x1 : Int32) : Option HS :=
  (g_readOne u0 x1).bind fun u102 =>
  jp (fun (u105 : HS) =>
  ((some u105) : Option HS)) fun w106 => mX2_readBoth_b_L7 g_readSum g_readProduct g_readUnit g_readEither g_readBoth g_readOne x1 w106 FU 0 u102
def mX2_readOne_b (g_readSum : HS → Int32 → Option HS) (g_readProduct : HS → Int32 → Option HS) (g_readUnit : HS → Int32 → Option HS) (g_readEither : HS → Int32 → Option HS) (g_readBoth : HS → Int32 → Option HS) (g_readOne : HS → Int32 → Option HS) (u0 : HS) (x1 : Int32) : Option HS :=
  (mX5_takeWord u0 6).bind fun z101 => bd z101.1 fun x102 => bd z101.2 fun u103 =>
  if (x102 = 0) then ((mX2_isTooDeep u103 x1).bind fun z129 => bd z129.1 fun x130 => bd z129.2 fun u131 =>
  if (x130 = 0) then ((g_readOne u131 (x1 + 1)).bind fun u134 =>
  (mX1_emit u134 (gR u134 0) (-31)).bind fun u137 =>
  some u137)
  else (some u131))
  else ((mX5_takeSign u103 7).bind fun z105 => bd z105.1 fun x106 => bd z105.2 fun u107 =>
  if (x106 = 0) then ((mX2_isTooDeep u107 x1).bind fun z120 => bd z120.1 fun x121 => bd z120.2 fun u122 =>
  if (x121 = 0) then ((g_readEither u122 (x1 + 1)).bind fun u125 =>
  (mX5_demandSign u125 8).bind fun z126 => bd z126.1 fun x127 => bd z126.2 fun u128 =>
  some u128)
  else (some u122))
  else ((g_readSum u107 x1).bind fun u110 =>
  (mX5_demandSign u110 9).bind fun z111 => bd z111.1 fun x112 => bd z111.2 fun u113 =>
  (g_readSum u113 x1).bind fun u115 =>
  bd (if (0 < x112) then x112 else 0) fun x117 =>
  (mX1_emit u115 (gR u115 0) ((-26) - x117)).bind fun u119 =>
  some u119))

def recX2 : Nat → Nat → HS → Int32 → Option HS
  | 0, _, _, _ => none
  | d + 1, w, u, x1 =>
    if w = 0 then mX2_readSum_b (recX2 d 0) (recX2 d 1) (recX2 d 2) (recX2 d 3) (recX2 d 4) (recX2 d 5) u x1
    else if w = 1 then mX2_readProduct_b (recX2 d 0) (recX2 d 1) (recX2 d 2) (recX2 d 3) (recX2 d 4) (recX2 d 5) u x1
    else if w = 2 then mX2_readUnit_b (recX2 d 0) (recX2 d 1) (recX2 d 2) (recX2 d 3) (recX2 d 4) (recX2 d 5) u x1
    else if w = 3 then mX2_readEither_b (recX2 d 0) (recX2 d 1) (recX2 d 2) (recX2 d 3) (recX2 d 4) (recX2 d 5) u x1
    else if w = 4 then mX2_readBoth_b (recX2 d 0) (recX2 d 1) (recX2 d 2) (recX2 d 3) (recX2 d 4) (recX2 d 5) u x1
    else mX2_readOne_b (recX2 d 0) (recX2 d 1) (recX2 d 2) (recX2 d 3) (recX2 d 4) (recX2 d 5) u x1
def mX2_readSum (u0 : HS) (x1 : Int32) : Option HS := recX2 DR 0 u0 x1
def mX2_readProduct (u0 : HS) (x1 : Int32) : Option HS := recX2 DR 1 u0 x1
def mX2_readUnit (u0 : HS) (x1 : Int32) : Option HS := recX2 DR 2 u0 x1
def mX2_readEither (u0 : HS) (x1 : Int32) : Option HS := recX2 DR 3 u0 x1
def mX2_readBoth (u0 : HS) (x1 : Int32) : Option HS := recX2 DR 4 u0 x1
def mX2_readOne (u0 : HS) (x1 : Int32) : Option HS := recX2 DR 5 u0 x1
def mX2_readClause (u0 : HS) (x1 : Int32) (x2 : Int32) : Option HS :=
  (ck 16 x2).bind fun k102 =>
  bd (wI u0 33 (gR u0 0) k102 x1) fun u103 =>
  (ck 16 x2).bind fun k106 =>
  bd (wI u103 34 (gR u103 0) k106 (gI u103 1 (gR u103 0) 1)) fun u107 =>
  (mX2_readSum u107 0).bind fun u109 =>
  (ck 16 x2).bind fun k112 =>
  bd (wI u109 35 (gR u109 0) k112 (gI u109 1 (gR u109 0) 1)) fun u113 =>
  (mX5_takeWord u113 11).bind fun z114 => bd z114.1 fun x115 => bd z114.2 fun u116 =>
  ((if (x115 = 0) then ((mX2_readEither u116 0).bind fun u127 =>
  some u127)
  else (some u116)) : Option HS).bind fun u117 =>
  (ck 16 x2).bind fun k121 =>
  bd (wI u117 36 (gR u117 0) k121 (gI u117 1 (gR u117 0) 1)) fun u122 =>
  bd (wI u122 1 (gR u122 0) 2 (x2 + 1)) fun u124 =>
  some u124
def mX2_read_L23  (w109 : HS → Option HS) : Nat → Int32 → HS → Option HS
  | 0, _, _ => none
  | fu + 1, x106, u107 =>
    if (16 < x106) then (w109 u107)
    else ((mX5_clauseWord u107 10 x106 16).bind fun z111 => bd z111.1 fun x112 => bd z111.2 fun u113 =>
    if (x112 = (-1)) then (some u113)
    else ((mX2_readClause u113 x112 x106).bind fun u116 =>
    (mX5_demandSign u116 0).bind fun z117 => bd z117.1 fun x118 => bd z117.2 fun u119 =>
    bd (x106 + 1) fun x120 =>
    mX2_read_L23  w109 fu x120 u119))
def mX2_read (u0 : HS) (i1 : Nat) : Option HS :=
  bd (wR u0 0 i1) fun u101 =>
  bd (wI u101 1 (gR u101 0) 1 0) fun u103 =>
  bd (wI u103 1 (gR u103 0) 2 0) fun u105 =>
  jp (fun (u108 : HS) =>
  ((some u108) : Option HS)) fun w109 => mX2_read_L23  w109 FU 0 u105
def mX9_lawClauseHere (u0 : HS) : Option HS :=
  (mX9_lawHere u0).bind fun z101 => bd z101.1 fun x102 => bd z101.2 fun u103 =>
  (mX9_needs u103 x102 16).bind fun u105 =>
  if ((gI u105 9 0 6) = 0) then ((mX9_skipWord u105).bind fun u108 =>
  (ck 24 (gI u108 9 0 9)).bind fun k109 =>
  (ck 8 0).bind fun k110 =>
  bd (wI u108 63 k109 k110 x102) fun u111 =>
  (ck 8 1).bind fun k112 =>
  bd (wI u111 63 k109 k112 (gI u111 9 0 8)) fun u113 =>
  (mX9_sum u113).bind fun u115 =>
  (ck 8 2).bind fun k116 =>
  bd (wI u115 63 k109 k116 (gI u115 9 0 8)) fun u117 =>
  (ck 8 3).bind fun k118 =>
  bd (wI u117 63 k109 k118 (-1)) fun u119 =>
  (mX9_isWord u119 9 6 0 0 0 0).bind fun z120 => bd z120.1 fun x121 => bd z120.2 fun u122 =>
  ((if (x121 = 0) then (some u122)
  else ((mX9_skipWord u122).bind fun u130 =>
  (mX9_ors u130).bind fun u132 =>
  (ck 8 3).bind fun k133 =>
  bd (wI u132 63 k109 k133 (gI u132 9 0 8)) fun u134 =>
  some u134)) : Option HS).bind fun u123 =>
  (mX9_sign u123 59).bind fun u126 =>
  bd (wI u126 9 0 9 ((gI u126 9 0 9) + 1)) fun u127 =>
  some u127)
  else (some u105)
def mX9_law_L152 (x125 : Int32) (w138 : HS → Option (Int32 × HS)) : Nat → Int32 → HS → Option (Int32 × HS)
  | 0, _, _ => none
  | fu + 1, x135, u136 =>
    if (4 ≤ x135) then (w138 u136)
    else ((ck 64 ((16 * (gI u136 9 0 16)) + x125)).bind fun k141 =>
    (ck 24 x125).bind fun k142 =>
    (ck 8 x135).bind fun k143 =>
    (ck 4 x135).bind fun k144 =>
    bd (wI u136 75 k141 k144 (gI u136 63 k142 k143)) fun u145 =>
    bd (x135 + 1) fun x146 =>
    mX9_law_L152 x125 w138 fu x146 u145)
def mX9_law_L142  (w128 : HS → Option (Int32 × HS)) : Nat → Int32 → HS → Option (Int32 × HS)
  | 0, _, _ => none
  | fu + 1, x125, u126 =>
    if ((gI u126 9 0 9) ≤ x125) then (w128 u126)
    else (jp (fun (u137 : HS) =>
    ((bd (x125 + 1) fun x139 =>
    mX9_law_L142  w128 fu x139 u137) : Option (Int32 × HS))) fun w138 => mX9_law_L152 x125 w138 FU 0 u126)
def mX9_law_L109  (w124 : HS → Option (Int32 × HS)) : Nat → Int32 → HS → Option (Int32 × HS)
  | 0, _, _ => none
  | fu + 1, x121, u122 =>
    if ((gI u122 9 0 8) ≤ x121) then (w124 u122)
    else ((ck 4 (gI u122 9 0 16)).bind fun k148 =>
    (ck 500 x121).bind fun k149 =>
    (ck 500 x121).bind fun k150 =>
    bd (wI u122 73 k148 k150 (gI u122 61 0 k149)) fun u151 =>
    bd (x121 + 1) fun x152 =>
    mX9_law_L109  w124 fu x152 u151)
def mX9_law_L55  (w118 : HS → Option (Int32 × HS)) : Nat → HS → Option (Int32 × HS)
  | 0, _ => none
  | fu + 1, u116 =>
    if ((gI u116 9 0 6) = 0) then (if ((gI u116 9 0 2) ≤ (gI u116 9 0 4)) then (w118 u116)
    else ((mX9_lawClauseHere u116).bind fun u156 =>
    (mX9_blanks u156).bind fun u158 =>
    mX9_law_L55  w118 fu u158))
    else (w118 u116)
def mX9_law (u0 : HS) (x1 : Int32) : Option (Int32 × HS) :=
  bd (wI u0 9 0 0 0) fun u101 =>
  (mX9_in x1 0 (gI u101 9 0 1)).bind fun x103 =>
  ((if (x103 = 0) then (some 1)
  else (some 0)) : Option Int32).bind fun x104 =>
  (mX9_bad u101 x104 1).bind fun z106 => bd z106.1 fun x107 => bd z106.2 fun u108 =>
  if (x107 = 0) then (((if ((gI u108 9 0 16) = 4) then (some 1)
  else (some 0)) : Option Int32).bind fun x110 =>
  (mX9_isRead u108 x1 x110).bind fun z112 => bd z112.1 fun x113 => bd z112.2 fun u114 =>
  if (x113 = 0) then (some ((-1), u114))
  else (jp (fun (u117 : HS) =>
  ((bd (wI u117 9 0 3 (gI u117 9 0 7)) fun u119 =>
  if ((gI u119 9 0 6) = 0) then (jp (fun (u123 : HS) =>
  ((jp (fun (u127 : HS) =>
  (((ck 4 (gI u127 9 0 16)).bind fun k129 =>
  bd (wI u127 76 0 k129 (gI u127 9 0 9)) fun u130 =>
  (ck 4 (gI u130 9 0 16)).bind fun k131 =>
  bd (wI u130 77 0 k131 1) fun u132 =>
  bd (wI u132 9 0 16 ((gI u132 9 0 16) + 1)) fun u133 =>
  some ((gI u133 9 0 16) - 1, u133)) : Option (Int32 × HS))) fun w128 => mX9_law_L142  w128 FU 0 u123) : Option (Int32 × HS))) fun w124 => mX9_law_L109  w124 FU 0 u119)
  else (some ((gI u119 9 0 6) - 10, u119))) : Option (Int32 × HS))) fun w118 => mX9_law_L55  w118 FU u114))
  else (some (0, u108))
def mX8_require (x0 : Int32) : Option Nat :=
  if (x0 = 0) then (some 1)
  else (some 0)
def mX3_settle_L140 (i0 : Nat) (w120 : HS → Option HS) : Nat → Int32 → HS → Option HS
  | 0, _, _ => none
  | fu + 1, x117, u118 =>
    if ((gI u118 3 i0 0) ≤ x117) then (w120 u118)
    else ((mX3_settleTints u118 i0 x117).bind fun u123 =>
    bd (x117 + 1) fun x124 =>
    mX3_settle_L140 i0 w120 fu x124 u123)
def mX3_settle_L88 (i0 : Nat) (w116 : HS → Option HS) : Nat → Int32 → HS → Option HS
  | 0, _, _ => none
  | fu + 1, x113, u114 =>
    if ((gI u114 3 i0 7) ≤ x113) then (w116 u114)
    else (bd (x113 * 3) fun x126 =>
    (ck 72 x126).bind fun k127 =>
    (ck 72 (x126 + 1)).bind fun k128 =>
    (ck 72 (x126 + 2)).bind fun k129 =>
    (ck (gR u114 (10 + i0)) (((gI u114 41 i0 k127) * 300) + (gI u114 41 i0 k128))).bind fun k130 =>
    bd (wI u114 43 i0 k130 (gI u114 41 i0 k129)) fun u131 =>
    bd (x113 + 1) fun x132 =>
    mX3_settle_L88 i0 w116 fu x132 u131)
def mX3_settle_L64 (i0 : Nat) (w112 : HS → Option HS) : Nat → Int32 → HS → Option HS
  | 0, _, _ => none
  | fu + 1, x109, u110 =>
    if ((gI u110 3 i0 3) ≤ x109) then (w112 u110)
    else ((mX3_settleWay u110 i0 (x109 * 7)).bind fun u135 =>
    bd (x109 + 1) fun x136 =>
    mX3_settle_L64 i0 w112 fu x136 u135)
def mX3_settle_L30 (i0 : Nat) (w108 : HS → Option HS) : Nat → Int32 → HS → Option HS
  | 0, _, _ => none
  | fu + 1, x105, u106 =>
    if (((gI u106 3 i0 0) * 300) ≤ x105) then (w108 u106)
    else ((ck (gR u106 (3 + i0)) x105).bind fun k138 =>
    bd (wI u106 42 i0 k138 (-1)) fun u139 =>
    (ck (gR u139 (10 + i0)) x105).bind fun k140 =>
    bd (wI u139 43 i0 k140 (-1)) fun u141 =>
    bd (x105 + 1) fun x142 =>
    mX3_settle_L30 i0 w108 fu x142 u141)
def mX3_settle (u0 : HS) (i0 : Nat) : Option HS :=
  (nw 2400 ((gI u0 3 i0 0) * 300)).bind fun k101 =>
  bd (wN u0 42 i0 3 k101) fun u102 =>
  (nw 2400 ((gI u102 3 i0 0) * 300)).bind fun k103 =>
  bd (wN u102 43 i0 10 k103) fun u104 =>
  jp (fun (u107 : HS) =>
  ((jp (fun (u111 : HS) =>
  ((jp (fun (u115 : HS) =>
  ((jp (fun (u119 : HS) =>
  ((some u119) : Option HS)) fun w120 => mX3_settle_L140 i0 w120 FU 0 u115) : Option HS)) fun w116 => mX3_settle_L88 i0 w116 FU 0 u111) : Option HS)) fun w112 => mX3_settle_L64 i0 w112 FU 0 u107) : Option HS)) fun w108 => mX3_settle_L30 i0 w108 FU 0 u104
def mX8_scene (u0 : HS) (x1 : Int32) : Option (Nat × Int32 × HS) :=
  ((jp (((some 0) : Option Int32)) fun j114 =>
  if (x1 < 0) then (j114)
  else (if ((gI u0 5 0 1) < x1) then (j114)
  else (some 1))) : Option Int32).bind fun x101 =>
  (mX8_require x101).bind fun t103 =>
  xq t103 (some (t103, 0, u0)) <|
  (mX5_open u0 x1).bind fun u105 =>
  if ((gI u105 8 0 2) = 6) then (some (0, (-1), u105))
  else ((ck 6 (gI u105 8 0 2)).bind fun k107 =>
  (mX3_read u105 k107).bind fun u109 =>
  if ((gI u109 5 0 5) = 0) then ((mX3_settle u109 k107).bind fun u112 =>
  bd (wI u112 8 0 2 ((gI u112 8 0 2) + 1)) fun u113 =>
  some (0, gI u112 8 0 2, u113))
  else (some (0, (gI u109 5 0 5) - 10, u109)))
def mX8_task (u0 : HS) (x1 : Int32) : Option (Nat × Int32 × HS) :=
  ((jp (((some 0) : Option Int32)) fun j112 =>
  if (x1 < 0) then (j112)
  else (if ((gI u0 5 0 1) < x1) then (j112)
  else (if (200 < x1) then (j112)
  else (some 1)))) : Option Int32).bind fun x101 =>
  (mX8_require x101).bind fun t103 =>
  xq t103 (some (t103, 0, u0)) <|
  (mX5_open u0 x1).bind fun u105 =>
  if ((gI u105 8 0 4) = 6) then (some (0, (-1), u105))
  else ((ck 6 (gI u105 8 0 4)).bind fun k107 =>
  (mX6_read u105 k107).bind fun u109 =>
  if ((gI u109 5 0 5) = 0) then (bd (wI u109 8 0 4 ((gI u109 8 0 4) + 1)) fun u111 =>
  some (0, gI u109 8 0 4, u111))
  else (some (0, (gI u109 5 0 5) - 10, u109)))
def mX8_law (u0 : HS) (x1 : Int32) : Option (Nat × Int32 × HS) :=
  ((jp (((some 0) : Option Int32)) fun j112 =>
  if (x1 < 0) then (j112)
  else (if ((gI u0 5 0 1) < x1) then (j112)
  else (some 1))) : Option Int32).bind fun x101 =>
  (mX8_require x101).bind fun t103 =>
  xq t103 (some (t103, 0, u0)) <|
  (mX5_open u0 x1).bind fun u105 =>
  if ((gI u105 8 0 6) = 4) then (some (0, (-1), u105))
  else ((ck 4 (gI u105 8 0 6)).bind fun k107 =>
  (mX2_read u105 k107).bind fun u109 =>
  if ((gI u109 5 0 5) = 0) then (bd (wI u109 8 0 6 ((gI u109 8 0 6) + 1)) fun u111 =>
  some (0, gI u109 8 0 6, u111))
  else (some (0, (gI u109 5 0 5) - 10, u109)))
def mX8_requireScene (u0 : HS) (x1 : Int32) : Option Nat :=
  jp (((some 2) : Option Nat)) fun j101 =>
  if (x1 < 0) then (j101)
  else (if (x1 < (gI u0 8 0 2)) then (some 0)
  else (j101))
def mX8_told (u0 : HS) (x1 : Int32) (x2 : Int32) : Option (Nat × Int32 × HS) :=
  (mX8_requireScene u0 x1).bind fun t101 =>
  xq t101 (some (t101, 0, u0)) <|
  ((jp (((some 0) : Option Int32)) fun j111 =>
  if (x2 < 0) then (j111)
  else (if (5 < x2) then (j111)
  else (some 1))) : Option Int32).bind fun x102 =>
  (mX8_require x102).bind fun t104 =>
  xq t104 (some (t104, 0, u0)) <|
  (ck 6 x1).bind fun k105 =>
  if (x2 = 0) then (some (0, gI u0 3 k105 0, u0))
  else if (x2 = 1) then (some (0, gI u0 3 k105 3, u0))
  else if (x2 = 2) then (some (0, gI u0 3 k105 5, u0))
  else if (x2 = 3) then (some (0, gI u0 3 k105 11, u0))
  else if (x2 = 4) then (some (0, gI u0 3 k105 9, u0))
  else (some (0, gI u0 3 k105 10, u0))
def mX8_thing (u0 : HS) (x1 : Int32) (x2 : Int32) (x3 : Int32) (x4 : Int32) : Option (Nat × Int32 × HS) :=
  (mX8_requireScene u0 x1).bind fun t101 =>
  xq t101 (some (t101, 0, u0)) <|
  (ck 6 x1).bind fun k102 =>
  ((jp (((some 0) : Option Int32)) fun j123 =>
  if (x2 < 0) then (j123)
  else (if ((gI u0 3 k102 0) ≤ x2) then (j123)
  else ((mX8_isTenth x3).bind fun x127 =>
  if (x127 = 0) then (j123)
  else (if (x4 < 0) then (j123)
  else (if (5 < x4) then (j123)
  else (some 1)))))) : Option Int32).bind fun x103 =>
  (mX8_require x103).bind fun t105 =>
  xq t105 (some (t105, 0, u0)) <|
  (mX3_placeAt u0 k102 x2 x3).bind fun x107 =>
  if (x4 = 0) then (if (x107 = (-1)) then (some (0, (-1), u0))
  else (some (0, x107 / 100, u0)))
  else if (x4 = 1) then (if (x107 = (-1)) then (some (0, (-1), u0))
  else (some (0, x107 - x107 / 100 * 100, u0)))
  else if (x4 = 2) then ((mX3_tintAt u0 k102 x2 x3).bind fun x114 =>
  some (0, x114, u0))
  else if (x4 = 3) then ((mX3_paceAt u0 k102 x2 x3).bind fun x117 =>
  some (0, x117, u0))
  else if (x4 = 4) then ((ck 8 x2).bind fun k119 =>
  some (0, gI u0 38 k102 k119, u0))
  else ((mX3_turned u0 k102 x2 x3).bind fun x121 =>
  if (x121 = 0) then (some (0, 0, u0))
  else (some (0, 1, u0)))
def mX8_requireTask (u0 : HS) (x1 : Int32) : Option Nat :=
  jp (((some 3) : Option Nat)) fun j101 =>
  if (x1 < 0) then (j101)
  else (if (x1 < (gI u0 8 0 4)) then (some 0)
  else (j101))
def mX8_kept (u0 : HS) (x1 : Int32) (x2 : Int32) : Option (Nat × Int32 × HS) :=
  (mX8_requireTask u0 x1).bind fun t101 =>
  xq t101 (some (t101, 0, u0)) <|
  ((jp (((some 0) : Option Int32)) fun j110 =>
  if (x2 < 0) then (j110)
  else (if (4 < x2) then (j110)
  else (some 1))) : Option Int32).bind fun x102 =>
  (mX8_require x102).bind fun t104 =>
  xq t104 (some (t104, 0, u0)) <|
  (ck 6 x1).bind fun k105 =>
  if (x2 = 0) then (some (0, gI u0 6 k105 0, u0))
  else if (x2 = 1) then (some (0, gI u0 6 k105 1, u0))
  else if (x2 = 2) then (some (0, gI u0 6 k105 2, u0))
  else if (x2 = 3) then (some (0, gI u0 6 k105 3, u0))
  else (some (0, gI u0 6 k105 4, u0))
def mX8_throwsOf (u0 : HS) (x1 : Int32) (x2 : Int32) : Option (Nat × Int32 × HS) :=
  (mX8_requireScene u0 x1).bind fun t101 =>
  xq t101 (some (t101, 0, u0)) <|
  (mX8_requireTask u0 x2).bind fun t102 =>
  xq t102 (some (t102, 0, u0)) <|
  (ck 6 x1).bind fun k103 =>
  (ck 6 x2).bind fun k104 =>
  (mX3_throwsFrom u0 k103 (gI u0 6 k104 2)).bind fun x106 =>
  some (0, x106, u0)
def mX8_looker (u0 : HS) (x1 : Int32) (x2 : Int32) (x3 : Int32) : Option (Nat × Int32 × HS) :=
  (mX8_requireScene u0 x1).bind fun t101 =>
  xq t101 (some (t101, 0, u0)) <|
  (mX8_requireTask u0 x2).bind fun t102 =>
  xq t102 (some (t102, 0, u0)) <|
  (mX0_addLooker u0 0 x1 x2 x3).bind fun z103 => bd z103.1 fun x104 => bd z103.2 fun u105 =>
  if (x104 = (-1)) then (some (0, x104, u105))
  else ((mX8_forgetStates u105 x104).bind fun u108 =>
  some (0, x104, u108))
def mX8_requireLooker (u0 : HS) (x1 : Int32) : Option Nat :=
  jp (((some 1) : Option Nat)) fun j101 =>
  if (x1 < 0) then (j101)
  else (if (x1 < (gI u0 0 0 0)) then (some 0)
  else (j101))
def mX8_eyes (u0 : HS) (x1 : Int32) (x2 : Int32) (x3 : Int32) (x4 : Int32) : Option (Nat × Int32 × HS) :=
  (mX8_requireLooker u0 x1).bind fun t101 =>
  xq t101 (some (t101, 0, u0)) <|
  (mX8_isTenth x2).bind fun x103 =>
  ((jp (((some 0) : Option Int32)) fun j112 =>
  if (x103 = 0) then (j112)
  else (if (x3 < 0) then (j112)
  else (if (40 ≤ x3) then (j112)
  else (if (x4 < 0) then (j112)
  else (if (30 ≤ x4) then (j112)
  else (some 1)))))) : Option Int32).bind fun x104 =>
  (mX8_require x104).bind fun t106 =>
  xq t106 (some (t106, 0, u0)) <|
  (mX8_forgetStates u0 x1).bind fun u108 =>
  (mX0_addEyes u108 0 x1 x2 ((x3 * 100) + x4)).bind fun z109 => bd z109.1 fun x110 => bd z109.2 fun u111 =>
  some (0, x110, u111)
def mX8_blink (u0 : HS) (x1 : Int32) (x2 : Int32) (x3 : Int32) : Option (Nat × Int32 × HS) :=
  (mX8_requireLooker u0 x1).bind fun t101 =>
  xq t101 (some (t101, 0, u0)) <|
  (mX8_isTenth x2).bind fun x103 =>
  ((jp (((some 0) : Option Int32)) fun j112 =>
  if (x103 = 0) then (j112)
  else ((mX8_isTenth x3).bind fun x115 =>
  if (x115 = 0) then (j112)
  else (if (x3 < x2) then (j112)
  else (some 1)))) : Option Int32).bind fun x104 =>
  (mX8_require x104).bind fun t106 =>
  xq t106 (some (t106, 0, u0)) <|
  (mX8_forgetStates u0 x1).bind fun u108 =>
  (mX0_addBlink u108 0 x1 x2 x3).bind fun z109 => bd z109.1 fun x110 => bd z109.2 fun u111 =>
  some (0, x110, u111)
def mX8_eye (u0 : HS) (x1 : Int32) (x2 : Int32) : Option (Nat × Int32 × HS) :=
  (mX8_requireLooker u0 x1).bind fun t101 =>
  xq t101 (some (t101, 0, u0)) <|
  (mX8_isTenth x2).bind fun x103 =>
  (mX8_require x103).bind fun t104 =>
  xq t104 (some (t104, 0, u0)) <|
  (mX8_lookAs u0 x1 x2).bind fun u106 =>
  (ck 300 x2).bind fun k107 =>
  some (0, gI u106 46 0 k107, u106)
def mX8_on (u0 : HS) (x1 : Int32) (x2 : Int32) : Option (Nat × Int32 × HS) :=
  (mX8_requireLooker u0 x1).bind fun t101 =>
  xq t101 (some (t101, 0, u0)) <|
  ((jp (((some 0) : Option Int32)) fun j111 =>
  if (x2 < 0) then (j111)
  else (if (40 < x2) then (j111)
  else (some 1))) : Option Int32).bind fun x102 =>
  (mX8_require x102).bind fun t104 =>
  xq t104 (some (t104, 0, u0)) <|
  (mX8_sceneFor u0 x1).bind fun k106 =>
  (mX8_lookAs u0 x1 (gI u0 3 k106 11)).bind fun u108 =>
  (mX7_tenthsWithin u108 x2).bind fun x110 =>
  some (0, x110, u108)
def mX8_name (u0 : HS) (x1 : Int32) (x2 : Int32) (x3 : Int32) (x4 : Int32) : Option (Nat × Int32 × HS) :=
  (mX8_requireLooker u0 x1).bind fun t101 =>
  xq t101 (some (t101, 0, u0)) <|
  ((jp (((some 0) : Option Int32)) fun j116 =>
  if (x2 < 0) then (j116)
  else ((mX8_sceneFor u0 x1).bind fun k119 =>
  if ((gI u0 3 k119 0) ≤ x2) then (j116)
  else ((mX8_isTenth x3).bind fun x122 =>
  if (x122 = 0) then (j116)
  else (some 1)))) : Option Int32).bind fun x102 =>
  (mX8_require x102).bind fun t104 =>
  xq t104 (some (t104, 0, u0)) <|
  ((jp (((some 0) : Option Int32)) fun j113 =>
  if (x4 < 0) then (j113)
  else (if (11 ≤ x4) then (j113)
  else (some 1))) : Option Int32).bind fun x105 =>
  (mX8_require x105).bind fun t107 =>
  xq t107 (some (t107, 0, u0)) <|
  (mX8_lookAs u0 x1 x3).bind fun u109 =>
  (mX7_regard u109 x2 x3).bind fun u111 =>
  (ck 11 x4).bind fun k112 =>
  some (0, gI u111 48 0 k112, u111)
def mX8_requireLaw (u0 : HS) (x1 : Int32) : Option Nat :=
  jp (((some 3) : Option Nat)) fun j101 =>
  if (x1 < 0) then (j101)
  else (if (x1 < (gI u0 8 0 6)) then (some 0)
  else (j101))
def mX8_gets (u0 : HS) (x1 : Int32) (x2 : Int32) (x3 : Int32) (x4 : Int32) (x5 : Int32) : Option (Nat × Int32 × HS) :=
  (mX8_requireLaw u0 x1).bind fun t101 =>
  xq t101 (some (t101, 0, u0)) <|
  (mX8_requireLooker u0 x2).bind fun t102 =>
  xq t102 (some (t102, 0, u0)) <|
  ((jp (((some 0) : Option Int32)) fun j124 =>
  if (x3 < 0) then (j124)
  else ((mX8_sceneFor u0 x2).bind fun k127 =>
  if ((gI u0 3 k127 0) ≤ x3) then (j124)
  else ((mX8_isTenth x4).bind fun x130 =>
  if (x130 = 0) then (j124)
  else (if (x5 < 0) then (j124)
  else (if (2 < x5) then (j124)
  else (some 1)))))) : Option Int32).bind fun x103 =>
  (mX8_require x103).bind fun t105 =>
  xq t105 (some (t105, 0, u0)) <|
  (mX8_lookAs u0 x2 x4).bind fun u107 =>
  if (x5 = 1) then ((ck 4 x1).bind fun k120 =>
  (mX4_sumTo u107 k120 x3 x4).bind fun z121 => bd z121.1 fun x122 => bd z121.2 fun u123 =>
  some (0, x122, u123))
  else ((mX7_regard u107 x3 x4).bind fun u110 =>
  if (x5 = 0) then ((ck 4 x1).bind fun k116 =>
  (mX4_getsNow u110 k116).bind fun z117 => bd z117.1 fun x118 => bd z117.2 fun u119 =>
  some (0, x118, u119))
  else ((ck 4 x1).bind fun k112 =>
  (mX4_lineNow u110 k112).bind fun z113 => bd z113.1 fun x114 => bd z113.2 fun u115 =>
  some (0, x114, u115)))
def mX8_seen (u0 : HS) (x1 : Int32) (x2 : Int32) (x3 : Int32) : Option (Nat × Int32 × HS) :=
  (mX8_requireLaw u0 x1).bind fun t101 =>
  xq t101 (some (t101, 0, u0)) <|
  (mX8_requireLooker u0 x2).bind fun t102 =>
  xq t102 (some (t102, 0, u0)) <|
  ((jp (((some 0) : Option Int32)) fun j114 =>
  if (x3 < 0) then (j114)
  else ((mX8_sceneFor u0 x2).bind fun k117 =>
  if ((gI u0 3 k117 0) ≤ x3) then (j114)
  else (some 1))) : Option Int32).bind fun x103 =>
  (mX8_require x103).bind fun t105 =>
  xq t105 (some (t105, 0, u0)) <|
  (mX8_sceneFor u0 x2).bind fun k107 =>
  (mX8_lookAs u0 x2 (gI u0 3 k107 11)).bind fun u109 =>
  (ck 4 x1).bind fun k110 =>
  (mX4_firstSeen u109 k110 x3).bind fun z111 => bd z111.1 fun x112 => bd z111.2 fun u113 =>
  some (0, x112, u113)
def mX8_says (u0 : HS) (x1 : Int32) (x2 : Int32) (x3 : Int32) : Option (Nat × Int32 × HS) :=
  (mX8_requireLaw u0 x1).bind fun t101 =>
  xq t101 (some (t101, 0, u0)) <|
  (mX8_requireLooker u0 x2).bind fun t102 =>
  xq t102 (some (t102, 0, u0)) <|
  (mX8_isAsking x3).bind fun x104 =>
  (mX8_require x104).bind fun t105 =>
  xq t105 (some (t105, 0, u0)) <|
  (mX8_stateOf u0 x1 x2).bind fun z106 => bd z106.1 fun x107 => bd z106.2 fun u108 =>
  (mX8_isYes x107 x3).bind fun x110 =>
  (zb x110).bind fun _ =>
  some (0, x110, u108)
def mX8_miss (u0 : HS) (x1 : Int32) (x2 : Int32) (x3 : Int32) : Option (Nat × Int32 × HS) :=
  (mX8_requireLaw u0 x1).bind fun t101 =>
  xq t101 (some (t101, 0, u0)) <|
  (mX8_requireLooker u0 x2).bind fun t102 =>
  xq t102 (some (t102, 0, u0)) <|
  ((jp (((some 0) : Option Int32)) fun j123 =>
  if (x3 < 1) then (j123)
  else (if (99 < x3) then (j123)
  else (some 1))) : Option Int32).bind fun x103 =>
  (mX8_require x103).bind fun t105 =>
  xq t105 (some (t105, 0, u0)) <|
  (mX8_stateOf u0 x1 x2).bind fun z106 => bd z106.1 fun x107 => bd z106.2 fun u108 =>
  (mX8_isYes x107 0).bind fun x110 =>
  if (x110 = 0) then (if ((x107 &&& 1) = 0) then ((mX8_sceneFor u108 x2).bind fun k114 =>
  (mX8_lookAs u108 x2 (gI u108 3 k114 11)).bind fun u116 =>
  (mX7_blindness u116 x3).bind fun x118 =>
  some (0, x118, u116))
  else (if ((x107 &&& 2) = 0) then (some (0, 4, u108))
  else (some (0, 3, u108))))
  else ((mX0_isKnowing u108 0 x2).bind fun x121 =>
  if (x121 = 0) then (some (0, (-1), u108))
  else (some (0, 7, u108)))
def mX8_drawn (u0 : HS) (x1 : Int32) (x2 : Int32) (x3 : Int32) (x4 : Int32) : Option (Nat × Int32 × HS) :=
  (mX8_requireLaw u0 x1).bind fun t101 =>
  xq t101 (some (t101, 0, u0)) <|
  (mX8_requireLooker u0 x2).bind fun t102 =>
  xq t102 (some (t102, 0, u0)) <|
  ((jp (((some 0) : Option Int32)) fun j117 =>
  if (x3 < 0) then (j117)
  else (if (50 < x3) then (j117)
  else (some 1))) : Option Int32).bind fun x103 =>
  (mX8_require x103).bind fun t105 =>
  xq t105 (some (t105, 0, u0)) <|
  (mX8_sceneFor u0 x2).bind fun k107 =>
  if ((gI u0 3 k107 9) = (-1)) then (some (0, (-1), u0))
  else ((mX8_lookAs u0 x2 (gI u0 3 k107 11)).bind fun u110 =>
  (mX4_drawBy u110 x3 x4).bind fun u112 =>
  (ck 4 x1).bind fun k113 =>
  (mX4_firstSeen u112 k113 (gI u112 3 k107 9)).bind fun z114 => bd z114.1 fun x115 => bd z114.2 fun u116 =>
  some (0, x115, u116))
def mX8_change (u0 : HS) (x1 : Int32) (x2 : Int32) : Option (Nat × Int32 × HS) :=
  (mX8_requireLaw u0 x1).bind fun t101 =>
  xq t101 (some (t101, 0, u0)) <|
  (mX8_requireLooker u0 x2).bind fun t102 =>
  xq t102 (some (t102, 0, u0)) <|
  (mX8_changeSeen u0 x1 x2).bind fun z103 => bd z103.1 fun x104 => bd z103.2 fun u105 =>
  some (0, x104, u105)
def mX8_yet_L9 (x1 : Int32) (w107 : Int32 → HS → Option (Nat × Int32 × HS)) : Nat → Int32 → Int32 → HS → Option (Nat × Int32 × HS)
  | 0, _, _, _ => none
  | fu + 1, x102, x103, u104 =>
    if ((gI u104 0 0 0) ≤ x103) then (w107 x102 u104)
    else ((mX8_stateOf u104 x1 x103).bind fun z109 => bd z109.1 fun x110 => bd z109.2 fun u111 =>
    jp (fun (x112 : Int32) (u113 : HS) =>
    ((bd (x103 + 1) fun x115 =>
    mX8_yet_L9 x1 w107 fu x112 x115 u113) : Option (Nat × Int32 × HS))) fun j114 =>
    if ((x110 &&& 1) = 0) then ((mX8_wasOnIt u111 x103).bind fun z117 => bd z117.1 fun x118 => bd z117.2 fun u119 =>
    if (x118 = 0) then (j114 x102 u119)
    else (bd (x102 ||| ((1 : Int32) <<< (x103 &&& 31))) fun x121 =>
    j114 x121 u119))
    else (j114 x102 u111))
def mX8_yet (u0 : HS) (x1 : Int32) : Option (Nat × Int32 × HS) :=
  (mX8_requireLaw u0 x1).bind fun t101 =>
  xq t101 (some (t101, 0, u0)) <|
  jp (fun (x105 : Int32) (u106 : HS) =>
  ((some (0, x105, u106)) : Option (Nat × Int32 × HS))) fun w107 => mX8_yet_L9 x1 w107 FU 0 0 u0
def mX8_least_L81 (x111 : Int32) (x3 : Int32) (x1 : Int32) (k107 : Nat) (w118 : HS → Option (Nat × Int32 × HS)) : Nat → Int32 → HS → Option (Nat × Int32 × HS)
  | 0, _, _ => none
  | fu + 1, x115, u116 =>
    if (x111 < x115) then (w118 u116)
    else ((mX7_bend u116 x3 x115).bind fun u121 =>
    (ck 4 x1).bind fun k122 =>
    (mX4_firstSeen u121 k122 (gI u121 3 k107 9)).bind fun z123 => bd z123.1 fun x124 => bd z123.2 fun u125 =>
    if (x124 = (-1)) then (bd (x115 + 1) fun x127 =>
    mX8_least_L81 x111 x3 x1 k107 w118 fu x127 u125)
    else (some (0, x115, u125)))
def mX8_least (u0 : HS) (x1 : Int32) (x2 : Int32) (x3 : Int32) : Option (Nat × Int32 × HS) :=
  (mX8_requireLaw u0 x1).bind fun t101 =>
  xq t101 (some (t101, 0, u0)) <|
  (mX8_requireLooker u0 x2).bind fun t102 =>
  xq t102 (some (t102, 0, u0)) <|
  ((jp (((some 0) : Option Int32)) fun j130 =>
  if (x3 < 0) then (j130)
  else (if (2 < x3) then (j130)
  else (some 1))) : Option Int32).bind fun x103 =>
  (mX8_require x103).bind fun t105 =>
  xq t105 (some (t105, 0, u0)) <|
  (mX8_sceneFor u0 x2).bind fun k107 =>
  if ((gI u0 3 k107 9) = (-1)) then (some (0, (-1), u0))
  else ((mX8_lookAs u0 x2 (gI u0 3 k107 11)).bind fun u110 =>
  ((if (x3 = 1) then (some 20)
  else (some 9)) : Option Int32).bind fun x111 =>
  ((if (x3 = 1) then (some 0)
  else (some 1)) : Option Int32).bind fun x113 =>
  jp (fun (u117 : HS) =>
  ((some (0, (-1), u117)) : Option (Nat × Int32 × HS))) fun w118 => mX8_least_L81 x111 x3 x1 k107 w118 FU x113 u110)
def mX8_answer (u0 : HS) (x1 : Int32) (x2 : Int32) (x3 : Int32) : Option (Nat × Int32 × HS) :=
  (mX8_requireLooker u0 x1).bind fun t101 =>
  xq t101 (some (t101, 0, u0)) <|
  (mX8_isAsking x2).bind fun x103 =>
  (mX8_require x103).bind fun t104 =>
  xq t104 (some (t104, 0, u0)) <|
  (mX0_reply u0 0 x1 x2).bind fun x106 =>
  ((if (x3 = 0) then (some 0)
  else (some 1)) : Option Int32).bind fun x107 =>
  (ck 42 ((x1 * 3) + x2)).bind fun k109 =>
  bd (wI u0 22 0 k109 x107) fun u110 =>
  some (0, x106, u110)
def mX8_counted (u0 : HS) (x1 : Int32) (x2 : Int32) : Option (Nat × Int32 × HS) :=
  (mX8_requireLooker u0 x1).bind fun t101 =>
  xq t101 (some (t101, 0, u0)) <|
  ((jp (((some 0) : Option Int32)) fun j109 =>
  if (x2 < 0) then (j109)
  else (if (999 < x2) then (j109)
  else (some 1))) : Option Int32).bind fun x102 =>
  (mX8_require x102).bind fun t104 =>
  xq t104 (some (t104, 0, u0)) <|
  (ck 14 x1).bind fun k105 =>
  bd (gI u0 23 0 k105) fun x106 =>
  (ck 14 x1).bind fun k107 =>
  bd (wI u0 23 0 k107 x2) fun u108 =>
  some (0, x106, u108)
def mX8_sure (u0 : HS) (x1 : Int32) (x2 : Int32) : Option (Nat × Int32 × HS) :=
  (mX8_requireLooker u0 x1).bind fun t101 =>
  xq t101 (some (t101, 0, u0)) <|
  ((jp (((some 0) : Option Int32)) fun j109 =>
  if (x2 < 0) then (j109)
  else (if (100 < x2) then (j109)
  else (some 1))) : Option Int32).bind fun x102 =>
  (mX8_require x102).bind fun t104 =>
  xq t104 (some (t104, 0, u0)) <|
  (ck 14 x1).bind fun k105 =>
  bd (gI u0 24 0 k105) fun x106 =>
  (ck 14 x1).bind fun k107 =>
  bd (wI u0 24 0 k107 x2) fun u108 =>
  some (0, x106, u108)
def mX8_share (u0 : HS) (x1 : Int32) (x2 : Int32) (x3 : Int32) (x4 : Int32) : Option (Nat × Int32 × HS) :=
  (mX8_requireScene u0 x1).bind fun t101 =>
  xq t101 (some (t101, 0, u0)) <|
  (mX8_requireTask u0 x2).bind fun t102 =>
  xq t102 (some (t102, 0, u0)) <|
  (mX8_isAsking x3).bind fun x104 =>
  ((jp (((some 0) : Option Int32)) fun j120 =>
  if (x104 = 0) then (j120)
  else (if (x4 < 0) then (j120)
  else (if (3 < x4) then (j120)
  else (some 1)))) : Option Int32).bind fun x105 =>
  (mX8_require x105).bind fun t107 =>
  xq t107 (some (t107, 0, u0)) <|
  (mX0_askedOf u0 0 x1 x2 x3).bind fun x109 =>
  (mX0_yesOf u0 0 x1 x2 x3).bind fun x111 =>
  (mX8_root x111).bind fun x113 =>
  bd (1 + x113) fun x114 =>
  if (x4 = 0) then (some (0, x109, u0))
  else if (x4 = 1) then (some (0, x111, u0))
  else if (x4 = 2) then (bd (if (0 < (x111 - x114)) then (x111 - x114) else 0) fun x118 =>
  some (0, x118, u0))
  else (bd (if ((x111 + x114) < x109) then (x111 + x114) else x109) fun x119 =>
  some (0, x119, u0))
def mX8_guessed (u0 : HS) (x1 : Int32) (x2 : Int32) (x3 : Int32) (x4 : Int32) : Option (Nat × Int32 × HS) :=
  (mX8_requireScene u0 x1).bind fun t101 =>
  xq t101 (some (t101, 0, u0)) <|
  (mX8_requireScene u0 x2).bind fun t102 =>
  xq t102 (some (t102, 0, u0)) <|
  (mX8_requireTask u0 x3).bind fun t103 =>
  xq t103 (some (t103, 0, u0)) <|
  (mX8_isAsking x4).bind fun x105 =>
  (mX8_require x105).bind fun t106 =>
  xq t106 (some (t106, 0, u0)) <|
  (mX0_askedOf u0 0 x1 x3 x4).bind fun x108 =>
  (mX0_yesOf u0 0 x1 x3 x4).bind fun x110 =>
  (mX0_askedOf u0 0 x2 x3 x4).bind fun x112 =>
  (mX0_yesOf u0 0 x2 x3 x4).bind fun x114 =>
  bd (x108 * (x112 - x114)) fun x115 =>
  if (x115 = 0) then (some (0, (-1), u0))
  else ((nz x115).bind fun _ =>
  bd (if (0 < ((1000 * ((x110 * x112) - (x114 * x108))) / x115)) then ((1000 * ((x110 * x112) - (x114 * x108))) / x115) else 0) fun x118 =>
  some (0, x118, u0))
def mX8_apart (u0 : HS) (x1 : Int32) (x2 : Int32) (x3 : Int32) (x4 : Int32) (x5 : Int32) (x6 : Int32) : Option (Nat × Int32 × HS) :=
  (mX8_requireScene u0 x1).bind fun t101 =>
  xq t101 (some (t101, 0, u0)) <|
  (mX8_requireScene u0 x3).bind fun t102 =>
  xq t102 (some (t102, 0, u0)) <|
  (mX8_requireTask u0 x2).bind fun t103 =>
  xq t103 (some (t103, 0, u0)) <|
  (mX8_requireTask u0 x4).bind fun t104 =>
  xq t104 (some (t104, 0, u0)) <|
  (mX8_isAsking x5).bind fun x106 =>
  ((jp (((some 0) : Option Int32)) fun j124 =>
  if (x106 = 0) then (j124)
  else (if (x6 < 0) then (j124)
  else (if (2 < x6) then (j124)
  else (some 1)))) : Option Int32).bind fun x107 =>
  (mX8_require x107).bind fun t109 =>
  xq t109 (some (t109, 0, u0)) <|
  (mX0_askedOf u0 0 x1 x2 x5).bind fun x111 =>
  (mX0_yesOf u0 0 x1 x2 x5).bind fun x113 =>
  (mX0_askedOf u0 0 x3 x4 x5).bind fun x115 =>
  (mX0_yesOf u0 0 x3 x4 x5).bind fun x117 =>
  if (x6 = 0) then (some (0, (x113 * x115) - (x117 * x111), u0))
  else if (x6 = 1) then ((mX8_waysOf x111 x113 x115 x117).bind fun x121 =>
  some (0, x121, u0))
  else ((mX8_choose (x111 + x115) x111).bind fun x123 =>
  some (0, x123, u0))
def mX8_gone_L33 (u0 : HS) (x1 : Int32) (x2 : Int32) (x3 : Int32) (w109 : Int32 → Option (Nat × Int32 × HS)) : Nat → Int32 → Int32 → Option (Nat × Int32 × HS)
  | 0, _, _ => none
  | fu + 1, x106, x107 =>
    if ((gI u0 0 0 0) ≤ x107) then (w109 x106)
    else ((mX0_repliedAll u0 0 x107 x1 x2).bind fun x112 =>
    ((if (x112 = 0) then (some x106)
    else (jp (((bd (x106 + 1) fun x118 =>
    some x118) : Option Int32)) fun j117 =>
    if (x3 = 2) then (j117)
    else (((if (x3 = 0) then (some 1)
    else (some 0)) : Option Int32).bind fun x120 =>
    (mX0_isLostTo u0 0 x107 x120).bind fun x123 =>
    if (x123 = 0) then (some x106)
    else (j117)))) : Option Int32).bind fun x113 =>
    bd (x107 + 1) fun x115 =>
    mX8_gone_L33 u0 x1 x2 x3 w109 fu x113 x115)
def mX8_gone (u0 : HS) (x1 : Int32) (x2 : Int32) (x3 : Int32) : Option (Nat × Int32 × HS) :=
  (mX8_requireScene u0 x1).bind fun t101 =>
  xq t101 (some (t101, 0, u0)) <|
  (mX8_requireTask u0 x2).bind fun t102 =>
  xq t102 (some (t102, 0, u0)) <|
  ((jp (((some 0) : Option Int32)) fun j126 =>
  if (x3 < 0) then (j126)
  else (if (2 < x3) then (j126)
  else (some 1))) : Option Int32).bind fun x103 =>
  (mX8_require x103).bind fun t105 =>
  xq t105 (some (t105, 0, u0)) <|
  jp (fun (x108 : Int32) =>
  ((some (0, x108, u0)) : Option (Nat × Int32 × HS))) fun w109 => mX8_gone_L33 u0 x1 x2 x3 w109 FU 0 0
def mX8_lost (u0 : HS) (x1 : Int32) : Option (Nat × Int32 × HS) :=
  (mX8_requireLooker u0 x1).bind fun t101 =>
  xq t101 (some (t101, 0, u0)) <|
  (mX8_lostBy u0 x1).bind fun x103 =>
  some (0, x103, u0)
def mX8_cost (u0 : HS) (x1 : Int32) (x2 : Int32) (x3 : Int32) : Option (Nat × Int32 × HS) :=
  (mX8_requireScene u0 x1).bind fun t101 =>
  xq t101 (some (t101, 0, u0)) <|
  (mX8_requireTask u0 x2).bind fun t102 =>
  xq t102 (some (t102, 0, u0)) <|
  (mX8_requireTask u0 x3).bind fun t103 =>
  xq t103 (some (t103, 0, u0)) <|
  (ck 6 x2).bind fun k104 =>
  if ((gI u0 6 k104 2) = (-1)) then (some (0, 0, u0))
  else ((ck 6 x3).bind fun k106 =>
  if ((gI u0 6 k106 2) = (-1)) then (some (0, 0, u0))
  else ((mX8_lostTogether u0 x1 x2).bind fun x109 =>
  (mX0_talliedOf u0 0 x1 x3).bind fun x111 =>
  (mX8_lostTogether u0 x1 x3).bind fun x113 =>
  (mX0_talliedOf u0 0 x1 x2).bind fun x115 =>
  some (0, (x109 * x111) - (x113 * x115), u0)))
def mX8_off_L36 (u0 : HS) (x1 : Int32) (x2 : Int32) (w111 : Int32 → Int32 → Option (Nat × Int32 × HS)) : Nat → Int32 → Int32 → Int32 → Option (Nat × Int32 × HS)
  | 0, _, _, _ => none
  | fu + 1, x106, x107, x108 =>
    if ((gI u0 0 0 0) ≤ x108) then (w111 x106 x107)
    else ((mX0_inGroup u0 0 x108 x1 x2 0).bind fun x115 =>
    jp (fun (x116 : Int32) (x117 : Int32) =>
    ((bd (x108 + 1) fun x119 =>
    mX8_off_L36 u0 x1 x2 w111 fu x116 x117 x119) : Option (Nat × Int32 × HS))) fun j118 =>
    if (x115 = 0) then (j118 x106 x107)
    else ((ck 14 x108).bind fun k121 =>
    if ((gI u0 24 0 k121) = (-1)) then (j118 x106 x107)
    else ((mX0_reply u0 0 x108 0).bind fun x124 =>
    (ck 14 x108).bind fun k125 =>
    bd (x106 + ((gI u0 24 0 k125) - (100 * x124))) fun x126 =>
    (ck 14 x108).bind fun k127 =>
    ((jp (((some 0) : Option Int32)) fun j131 =>
    if ((gI u0 24 0 k127) < 50) then (j131)
    else (if (x124 = 0) then (some 1)
    else (j131))) : Option Int32).bind fun x128 =>
    bd (x107 + x128) fun x130 =>
    j118 x126 x130)))
def mX8_off (u0 : HS) (x1 : Int32) (x2 : Int32) (x3 : Int32) : Option (Nat × Int32 × HS) :=
  (mX8_requireScene u0 x1).bind fun t101 =>
  xq t101 (some (t101, 0, u0)) <|
  (mX8_requireTask u0 x2).bind fun t102 =>
  xq t102 (some (t102, 0, u0)) <|
  ((jp (((some 1) : Option Int32)) fun j134 =>
  if (x3 = 0) then (j134)
  else (if (x3 = 1) then (j134)
  else (some 0))) : Option Int32).bind fun x103 =>
  (mX8_require x103).bind fun t105 =>
  xq t105 (some (t105, 0, u0)) <|
  jp (fun (x109 : Int32) (x110 : Int32) =>
  ((if (x3 = 0) then (some (0, x109, u0))
  else (some (0, x110, u0))) : Option (Nat × Int32 × HS))) fun w111 => mX8_off_L36 u0 x1 x2 w111 FU 0 0 0
def mX8_weigh (u0 : HS) (x1 : Int32) (x2 : Int32) : Option (Nat × Int32 × HS) :=
  (mX8_requireLaw u0 x1).bind fun t101 =>
  xq t101 (some (t101, 0, u0)) <|
  ((jp (((some 0) : Option Int32)) fun j109 =>
  if (x2 < 1) then (j109)
  else (if (9 < x2) then (j109)
  else (some 1))) : Option Int32).bind fun x102 =>
  (mX8_require x102).bind fun t104 =>
  xq t104 (some (t104, 0, u0)) <|
  (ck 4 x1).bind fun k105 =>
  bd (gI u0 31 0 k105) fun x106 =>
  (ck 4 x1).bind fun k107 =>
  bd (wI u0 31 0 k107 x2) fun u108 =>
  some (0, x106, u108)
def mX8_wrong (u0 : HS) (x1 : Int32) : Option (Nat × Int32 × HS) :=
  ((jp (((some 0) : Option Int32)) fun j106 =>
  if (x1 < 1) then (j106)
  else (if (8 < x1) then (j106)
  else (some 1))) : Option Int32).bind fun x101 =>
  (mX8_require x101).bind fun t103 =>
  xq t103 (some (t103, 0, u0)) <|
  bd (gI u0 0 0 16) fun x104 =>
  bd (wI u0 0 0 16 x1) fun u105 =>
  some (0, x104, u105)
def mX8_odds (u0 : HS) (x1 : Int32) : Option (Nat × Int64 × HS) :=
  (mX8_requireLaw u0 x1).bind fun t101 =>
  xq t101 (some (t101, 0, u0)) <|
  (mX8_oddsOf u0 x1).bind fun z102 => bd z102.1 fun y103 => bd z102.2 fun u104 =>
  some (0, y103, u104)
def mX8_fits (u0 : HS) (x1 : Int32) : Option (Nat × Int32 × HS) :=
  (mX8_isFit x1).bind fun x102 =>
  (mX8_require x102).bind fun t103 =>
  xq t103 (some (t103, 0, u0)) <|
  (mX8_fitting u0 x1).bind fun z104 => bd z104.1 fun x105 => bd z104.2 fun u106 =>
  some (0, x105, u106)
def mX8_knowing_L27 (x2 : Int32) (x1 : Int32) (w110 : Int32 → HS → Option (Nat × Int32 × HS)) : Nat → Int32 → Int32 → HS → Option (Nat × Int32 × HS)
  | 0, _, _, _ => none
  | fu + 1, x105, x106, u107 =>
    if ((gI u107 0 0 0) ≤ x106) then (w110 x105 u107)
    else ((mX0_isKnowing u107 0 x106).bind fun x113 =>
    jp (fun (x114 : Int32) (u115 : HS) =>
    ((bd (x106 + 1) fun x117 =>
    mX8_knowing_L27 x2 x1 w110 fu x114 x117 u115) : Option (Nat × Int32 × HS))) fun j116 =>
    if (x113 = 0) then (j116 x105 u107)
    else (jp (fun (u119 : HS) =>
    ((jp (fun (u121 : HS) =>
    ((bd (x105 + 1) fun x123 =>
    j116 x123 u121) : Option (Nat × Int32 × HS))) fun j122 =>
    if (x2 < 2) then (j122 u119)
    else ((mX8_changeSeen u119 x1 x106).bind fun z125 => bd z125.1 fun x126 => bd z125.2 fun u127 =>
    if (x126 = (-1)) then (j122 u127)
    else (j116 x105 u127))) : Option (Nat × Int32 × HS))) fun j120 =>
    if (x2 = 0) then (j120 u107)
    else ((mX8_stateOf u107 x1 x106).bind fun z130 => bd z130.1 fun x131 => bd z130.2 fun u132 =>
    (mX8_isYes x131 0).bind fun x134 =>
    if (x134 = 0) then (j116 x105 u132)
    else (j120 u132))))
def mX8_knowing (u0 : HS) (x1 : Int32) (x2 : Int32) : Option (Nat × Int32 × HS) :=
  (mX8_requireLaw u0 x1).bind fun t101 =>
  xq t101 (some (t101, 0, u0)) <|
  ((jp (((some 0) : Option Int32)) fun j136 =>
  if (x2 < 0) then (j136)
  else (if (2 < x2) then (j136)
  else (some 1))) : Option Int32).bind fun x102 =>
  (mX8_require x102).bind fun t104 =>
  xq t104 (some (t104, 0, u0)) <|
  jp (fun (x108 : Int32) (u109 : HS) =>
  ((some (0, x108, u109)) : Option (Nat × Int32 × HS))) fun w110 => mX8_knowing_L27 x2 x1 w110 FU 0 0 u0
def mX8_crossing_L47 (x109 : Int32) (x1 : Int32) (x2 : Int32) (x3 : Int32) (w116 : Int32 → HS → Option (Nat × Int32 × HS)) : Nat → Int32 → Int32 → HS → Option (Nat × Int32 × HS)
  | 0, _, _, _ => none
  | fu + 1, x111, x112, u113 =>
    if ((gI u113 8 0 6) ≤ x112) then (w116 x111 u113)
    else (jp (fun (x118 : Int32) (u119 : HS) =>
    ((bd (x112 + 1) fun x121 =>
    mX8_crossing_L47 x109 x1 x2 x3 w116 fu x118 x121 u119) : Option (Nat × Int32 × HS))) fun j120 =>
    if (((x109 >>> (x112 &&& 31)) &&& 1) = 0) then (j120 x111 u113)
    else ((mX8_stateOfNew u113 x112 x1 x2).bind fun z123 => bd z123.1 fun x124 => bd z123.2 fun u125 =>
    (mX8_isYes x124 x3).bind fun x127 =>
    ((if (x127 = 0) then (some 1)
    else (some 2)) : Option Int32).bind fun x128 =>
    bd (x111 ||| x128) fun x130 =>
    j120 x130 u125))
def mX8_crossing (u0 : HS) (x1 : Int32) (x2 : Int32) (x3 : Int32) (x4 : Int32) : Option (Nat × Int32 × HS) :=
  (mX8_requireScene u0 x1).bind fun t101 =>
  xq t101 (some (t101, 0, u0)) <|
  (mX8_requireTask u0 x2).bind fun t102 =>
  xq t102 (some (t102, 0, u0)) <|
  (mX8_isAsking x3).bind fun x104 =>
  ((jp (((some 0) : Option Int32)) fun j132 =>
  if (x104 = 0) then (j132)
  else ((mX8_isFit x4).bind fun x135 =>
  if (x135 = 0) then (j132)
  else (some 1))) : Option Int32).bind fun x105 =>
  (mX8_require x105).bind fun t107 =>
  xq t107 (some (t107, 0, u0)) <|
  (mX8_fitting u0 x4).bind fun z108 => bd z108.1 fun x109 => bd z108.2 fun u110 =>
  jp (fun (x114 : Int32) (u115 : HS) =>
  ((some (0, x114, u115)) : Option (Nat × Int32 × HS))) fun w116 => mX8_crossing_L47 x109 x1 x2 x3 w116 FU 0 0 u110
