def mX9_unit_b (g_unit : HS → Option HS) (g_product : HS → Option HS) (g_sum : HS → Option HS) (g_test : HS → Option HS) (g_ands : HS → Option HS) (g_ors : HS → Option HS) (u0 : HS) : Option HS :=
  if ((gI u0 9 0 6) = 0) then ((mX9_blanks u0).bind fun u103 =>
  (mX9_byteAt u103 (gI u103 9 0 4)).bind fun x105 =>
  (mX9_isDigit x105).bind fun x107 =>
  if (x107 = 0) then ((mX9_nameHere u103).bind fun z109 => bd z109.1 fun x110 => bd z109.2 fun u111 =>
  if (x110 = (-1)) then ((mX9_isWord u111 12 5 1 19 20 0).bind fun z113 => bd z113.1 fun x114 => bd z113.2 fun u115 =>
  jp (fun (x116 : Int32) (u117 : HS) =>
  ((((if (x116 = 0) then (some u117)
  else ((mX9_skipWord u117).bind fun u147 =>
  some u147)) : Option HS).bind fun u119 =>
  (mX9_blanks u119).bind fun u122 =>
  (mX9_byteAt u122 (gI u122 9 0 4)).bind fun x124 =>
  if (x124 = 40) then ((mX9_opens u122 1).bind fun u127 =>
  (g_sum u127).bind fun u129 =>
  ((if (x116 = 0) then (some u129)
  else ((mX9_sign u129 44).bind fun u140 =>
  (g_sum u140).bind fun u142 =>
  some u142)) : Option HS).bind fun u130 =>
  (mX9_sign u130 41).bind fun u133 =>
  bd (wI u133 9 0 5 ((gI u133 9 0 5) - 1)) fun u134 =>
  if (x116 = 0) then (some u134)
  else ((mX9_tells u134 x116).bind fun u137 =>
  some u137))
  else ((mX9_wrongAt u122 1 (gI u122 9 0 4)).bind fun u144 =>
  some u144)) : Option HS)) fun j118 =>
  if (x114 = 0) then ((mX9_isWord u115 13 15 19 20 0 0).bind fun z149 => bd z149.1 fun x150 => bd z149.2 fun u151 =>
  if (x150 = 0) then (j118 0 u151)
  else (j118 10025 u151))
  else (j118 10024 u115))
  else ((mX9_skipWord u111).bind fun u154 =>
  (mX9_tells u154 (10000 + x110)).bind fun u156 =>
  some u156))
  else ((mX9_number u103 0 9999 (-1)).bind fun z157 => bd z157.1 fun x158 => bd z157.2 fun u159 =>
  (mX9_tells u159 x158).bind fun u161 =>
  some u161))
  else (some u0)
def mX9_product_b_L8 (g_unit : HS → Option HS) (g_product : HS → Option HS) (g_sum : HS → Option HS) (g_test : HS → Option HS) (g_ands : HS → Option HS) (g_ors : HS → Option HS)  (w107 : HS → Option HS) : Nat → HS → Option HS
  | 0, _ => none
  | fu + 1, u105 =>
    if ((gI u105 9 0 6) = 0) then ((mX9_byteAt u105 (gI u105 9 0 4)).bind fun x110 =>
    jp ((((mX9_byteAt u105 (gI u105 9 0 4)).bind fun x113 =>
    bd (wI u105 9 0 4 ((gI u105 9 0 4) + 1)) fun u114 =>
    (g_unit u114).bind fun u116 =>
    ((if (x113 = 42) then (some 10022)
    else (some 10023)) : Option Int32).bind fun x117 =>
    (mX9_tells u116 x117).bind fun u120 =>
    (mX9_blanks u120).bind fun u122 =>
    mX9_product_b_L8 g_unit g_product g_sum g_test g_ands g_ors  w107 fu u122) : Option HS)) fun j111 =>
    if (x110 = 42) then (j111)
    else ((mX9_byteAt u105 (gI u105 9 0 4)).bind fun x126 =>
    if (x126 = 47) then (j111)
    else (w107 u105)))
    else (w107 u105)
def mX9_product_b (g_unit : HS → Option HS) (g_product : HS → Option HS) (g_sum : HS → Option HS) (g_test : HS → Option HS) (g_ands : HS → Option HS) (g_ors : HS → Option HS) (u0 : HS) : Option HS :=
  (g_unit u0).bind fun u102 =>
  (mX9_blanks u102).bind fun u104 =>
  jp (fun (u106 : HS) =>
  ((some u106) : Option HS)) fun w107 => mX9_product_b_L8 g_unit g_product g_sum g_test g_ands g_ors  w107 FU u104
def mX9_sum_b_L8 (g_unit : HS → Option HS) (g_product : HS → Option HS) (g_sum : HS → Option HS) (g_test : HS → Option HS) (g_ands : HS → Option HS) (g_ors : HS → Option HS)  (w107 : HS → Option HS) : Nat → HS → Option HS
  | 0, _ => none
  | fu + 1, u105 =>
    if ((gI u105 9 0 6) = 0) then ((mX9_byteAt u105 (gI u105 9 0 4)).bind fun x110 =>
    jp ((((mX9_byteAt u105 (gI u105 9 0 4)).bind fun x113 =>
    bd (wI u105 9 0 4 ((gI u105 9 0 4) + 1)) fun u114 =>
    (g_product u114).bind fun u116 =>
    ((if (x113 = 43) then (some 10020)
    else (some 10021)) : Option Int32).bind fun x117 =>
    (mX9_tells u116 x117).bind fun u120 =>
    (mX9_blanks u120).bind fun u122 =>
    mX9_sum_b_L8 g_unit g_product g_sum g_test g_ands g_ors  w107 fu u122) : Option HS)) fun j111 =>
    if (x110 = 43) then (j111)
    else ((mX9_byteAt u105 (gI u105 9 0 4)).bind fun x126 =>
    if (x126 = 45) then (j111)
    else (w107 u105)))
    else (w107 u105)
def mX9_sum_b (g_unit : HS → Option HS) (g_product : HS → Option HS) (g_sum : HS → Option HS) (g_test : HS → Option HS) (g_ands : HS → Option HS) (g_ors : HS → Option HS) (u0 : HS) : Option HS :=
  (g_product u0).bind fun u102 =>
  (mX9_blanks u102).bind fun u104 =>
  jp (fun (u106 : HS) =>
  ((some u106) : Option HS)) fun w107 => mX9_sum_b_L8 g_unit g_product g_sum g_test g_ands g_ors  w107 FU u104
def mX9_test_b (g_unit : HS → Option HS) (g_product : HS → Option HS) (g_sum : HS → Option HS) (g_test : HS → Option HS) (g_ands : HS → Option HS) (g_ors : HS → Option HS) (u0 : HS) : Option HS :=
  if ((gI u0 9 0 6) = 0) then ((mX9_isWord u0 14 15 20 0 0 0).bind fun z102 => bd z102.1 fun x103 => bd z102.2 fun u104 =>
  if (x103 = 0) then ((mX9_byteAt u104 (gI u104 9 0 4)).bind fun x107 =>
  if (x107 = 91) then ((mX9_opens u104 1).bind fun u133 =>
  (g_ors u133).bind fun u135 =>
  (mX9_sign u135 93).bind fun u137 =>
  bd (wI u137 9 0 5 ((gI u137 9 0 5) - 1)) fun u138 =>
  some u138)
  else ((g_sum u104).bind fun u110 =>
  if ((gI u110 9 0 6) = 0) then ((mX9_blanks u110).bind fun u113 =>
  (mX9_byteAt u113 (gI u113 9 0 4)).bind fun x115 =>
  ((if (x115 = 60) then (some u113)
  else (if (x115 = 62) then (some u113)
  else (if (x115 = 61) then (some u113)
  else ((mX9_wrongAt u113 1 (gI u113 9 0 4)).bind fun u131 =>
  some u131)))) : Option HS).bind fun u116 =>
  bd (wI u116 9 0 4 ((gI u116 9 0 4) + 1)) fun u118 =>
  (g_sum u118).bind fun u120 =>
  ((if (x115 = 60) then (some 10030)
  else (if (x115 = 62) then (some 10031)
  else (some 10032))) : Option Int32).bind fun x121 =>
  (mX9_tells u120 x121).bind fun u124 =>
  some u124)
  else (some u110)))
  else ((mX9_opens u104 3).bind fun u140 =>
  (g_test u140).bind fun u142 =>
  bd (wI u142 9 0 5 ((gI u142 9 0 5) - 1)) fun u143 =>
  (mX9_tells u143 10033).bind fun u145 =>
  some u145))
  else (some u0)
def mX9_ands_b_L4 (g_unit : HS → Option HS) (g_product : HS → Option HS) (g_sum : HS → Option HS) (g_test : HS → Option HS) (g_ands : HS → Option HS) (g_ors : HS → Option HS)  (w105 : HS → Option HS) : Nat → HS → Option HS
  | 0, _ => none
  | fu + 1, u103 =>
    (mX9_isWord u103 1 14 4 0 0 0).bind fun z106 => bd z106.1 fun x107 => bd z106.2 fun u108 =>
    if (x107 = 0) then (w105 u108)
    else ((mX9_skipWord u108).bind fun u111 =>
    (g_test u111).bind fun u113 =>
    (mX9_tells u113 10034).bind fun u115 =>
    mX9_ands_b_L4 g_unit g_product g_sum g_test g_ands g_ors  w105 fu u115)
def mX9_ands_b (g_unit : HS → Option HS) (g_product : HS → Option HS) (g_sum : HS → Option HS) (g_test : HS → Option HS) (g_ands : HS → Option HS) (g_ors : HS → Option HS) (u0 : HS) : Option HS :=
  (g_test u0).bind fun u102 =>
  jp (fun (u104 : HS) =>
  ((some u104) : Option HS)) fun w105 => mX9_ands_b_L4 g_unit g_product g_sum g_test g_ands g_ors  w105 FU u102
def mX9_ors_b_L4 (g_unit : HS → Option HS) (g_product : HS → Option HS) (g_sum : HS → Option HS) (g_test : HS → Option HS) (g_ands : HS → Option HS) (g_ors : HS → Option HS)  (w105 : HS → Option HS) : Nat → HS → Option HS
  | 0, _ => none
  | fu + 1, u103 =>
    (mX9_isWord u103 15 18 0 0 0 0).bind fun z106 => bd z106.1 fun x107 => bd z106.2 fun u108 =>
    if (x107 = 0) then (w105 u108)
    else ((mX9_skipWord u108).bind fun u111 =>
    (g_ands u111).bind fun u113 =>
    (mX9_tells u113 10035).bind fun u115 =>
    mX9_ors_b_L4 g_unit g_product g_sum g_test g_ands g_ors  w105 fu u115)
def mX9_ors_b (g_unit : HS → Option HS) (g_product : HS → Option HS) (g_sum : HS → Option HS) (g_test : HS → Option HS) (g_ands : HS → Option HS) (g_ors : HS → Option HS) (u0 : HS) : Option HS :=
  (g_ands u0).bind fun u102 =>
  jp (fun (u104 : HS) =>
  ((some u104) : Option HS)) fun w105 => mX9_ors_b_L4 g_unit g_product g_sum g_test g_ands g_ors  w105 FU u102
def DR : Nat := 64
def recX9 : Nat → Nat → HS → Option HS
  | 0, _, _ => none
  | d + 1, w, u =>
    if w = 0 then mX9_unit_b (recX9 d 0) (recX9 d 1) (recX9 d 2) (recX9 d 3) (recX9 d 4) (recX9 d 5) u
    else if w = 1 then mX9_product_b (recX9 d 0) (recX9 d 1) (recX9 d 2) (recX9 d 3) (recX9 d 4) (recX9 d 5) u
    else if w = 2 then mX9_sum_b (recX9 d 0) (recX9 d 1) (recX9 d 2) (recX9 d 3) (recX9 d 4) (recX9 d 5) u
    else if w = 3 then mX9_test_b (recX9 d 0) (recX9 d 1) (recX9 d 2) (recX9 d 3) (recX9 d 4) (recX9 d 5) u
    else if w = 4 then mX9_ands_b (recX9 d 0) (recX9 d 1) (recX9 d 2) (recX9 d 3) (recX9 d 4) (recX9 d 5) u
    else mX9_ors_b (recX9 d 0) (recX9 d 1) (recX9 d 2) (recX9 d 3) (recX9 d 4) (recX9 d 5) u
def mX9_unit (u0 : HS) : Option HS := recX9 DR 0 u0
def mX9_product (u0 : HS) : Option HS := recX9 DR 1 u0
def mX9_sum (u0 : HS) : Option HS := recX9 DR 2 u0
def mX9_test (u0 : HS) : Option HS := recX9 DR 3 u0
def mX9_ands (u0 : HS) : Option HS := recX9 DR 4 u0
def mX9_ors (u0 : HS) : Option HS := recX9 DR 5 u0
def mX2_readSum_b_L7 (g_readSum : HS → Int32 → Option HS) (g_readProduct : HS → Int32 → Option HS) (g_readUnit : HS → Int32 → Option HS) (g_readEither : HS → Int32 → Option HS) (g_readBoth : HS → Int32 → Option HS) (g_readOne : HS → Int32 → Option HS) (x1 : Int32) (w106 : HS → Option HS) : Nat → Int32 → HS → Option HS
  | 0, _, _ => none
  | fu + 1, x103, u104 =>
    if (400 ≤ x103) then (w106 u104)
    else ((mX5_takeSign u104 12).bind fun z108 => bd z108.1 fun x109 => bd z108.2 fun u110 =>
    if (x109 = (-1)) then (some u110)
    else ((g_readProduct u110 x1).bind fun u113 =>
    (mX1_emit u113 (gR u113 0) ((-20) - x109)).bind fun u116 =>
    bd (x103 + 1) fun x117 =>
    mX2_readSum_b_L7 g_readSum g_readProduct g_readUnit g_readEither g_readBoth g_readOne x1 w106 fu x117 u116))
def mX2_readSum_b (g_readSum : HS → Int32 → Option HS) (g_readProduct : HS → Int32 → Option HS) (g_readUnit : HS → Int32 → Option HS) (g_readEither : HS → Int32 → Option HS) (g_readBoth : HS → Int32 → Option HS) (g_readOne : HS → Int32 → Option HS) (u0 : HS) (x1 : Int32) : Option HS :=
  (g_readProduct u0 x1).bind fun u102 =>
  jp (fun (u105 : HS) =>
  ((some u105) : Option HS)) fun w106 => mX2_readSum_b_L7 g_readSum g_readProduct g_readUnit g_readEither g_readBoth g_readOne x1 w106 FU 0 u102
def mX2_readProduct_b_L7 (g_readSum : HS → Int32 → Option HS) (g_readProduct : HS → Int32 → Option HS) (g_readUnit : HS → Int32 → Option HS) (g_readEither : HS → Int32 → Option HS) (g_readBoth : HS → Int32 → Option HS) (g_readOne : HS → Int32 → Option HS) (x1 : Int32) (w106 : HS → Option HS) : Nat → Int32 → HS → Option HS
  | 0, _, _ => none
  | fu + 1, x103, u104 =>
    if (400 ≤ x103) then (w106 u104)
    else ((mX5_takeSign u104 13).bind fun z108 => bd z108.1 fun x109 => bd z108.2 fun u110 =>
    if (x109 = (-1)) then (some u110)
    else ((g_readUnit u110 x1).bind fun u113 =>
    (mX1_emit u113 (gR u113 0) ((-22) - x109)).bind fun u116 =>
    bd (x103 + 1) fun x117 =>
    mX2_readProduct_b_L7 g_readSum g_readProduct g_readUnit g_readEither g_readBoth g_readOne x1 w106 fu x117 u116))
def mX2_readProduct_b (g_readSum : HS → Int32 → Option HS) (g_readProduct : HS → Int32 → Option HS) (g_readUnit : HS → Int32 → Option HS) (g_readEither : HS → Int32 → Option HS) (g_readBoth : HS → Int32 → Option HS) (g_readOne : HS → Int32 → Option HS) (u0 : HS) (x1 : Int32) : Option HS :=
  (g_readUnit u0 x1).bind fun u102 =>
  jp (fun (u105 : HS) =>
  ((some u105) : Option HS)) fun w106 => mX2_readProduct_b_L7 g_readSum g_readProduct g_readUnit g_readEither g_readBoth g_readOne x1 w106 FU 0 u102
def mX2_readUnit_b (g_readSum : HS → Int32 → Option HS) (g_readProduct : HS → Int32 → Option HS) (g_readUnit : HS → Int32 → Option HS) (g_readEither : HS → Int32 → Option HS) (g_readBoth : HS → Int32 → Option HS) (g_readOne : HS → Int32 → Option HS) (u0 : HS) (x1 : Int32) : Option HS :=
  (mX5_isNumberNext u0).bind fun z101 => bd z101.1 fun x102 => bd z101.2 fun u103 =>
  if (x102 = 0) then ((mX5_takeWord u103 14).bind fun z105 => bd z105.1 fun x106 => bd z105.2 fun u107 =>
  if (x106 = (-1)) then ((mX5_takeWord u107 15).bind fun z109 => bd z109.1 fun x110 => bd z109.2 fun u111 =>
  (mX5_demandSign u111 1).bind fun z112 => bd z112.1 fun x113 => bd z112.2 fun u114 =>
  if (x113 = (-1)) then (some u114)
  else ((mX2_isTooDeep u114 x1).bind fun z116 => bd z116.1 fun x117 => bd z116.2 fun u118 =>
  if (x117 = 0) then ((g_readSum u118 (x1 + 1)).bind fun u121 =>
  ((if (x110 = (-1)) then (some u121)
  else ((mX5_demandSign u121 2).bind fun z128 => bd z128.1 fun x129 => bd z128.2 fun u130 =>
  (g_readSum u130 (x1 + 1)).bind fun u132 =>
  (mX1_emit u132 (gR u132 0) ((-24) - x110)).bind fun u135 =>
  some u135)) : Option HS).bind fun u122 =>
  (mX5_demandSign u122 3).bind fun z124 => bd z124.1 fun x125 => bd z124.2 fun u126 =>
  some u126)
  else (some u118)))
  else ((mX1_emit u107 (gR u107 0) ((-1) - x106)).bind fun u138 =>
  some u138))
  else ((mX5_demandNumber u103 0 9999).bind fun z140 => bd z140.1 fun x141 => bd z140.2 fun u142 =>
  (mX1_emit u142 (gR u103 0) x141).bind fun u144 =>
  some u144)
def mX2_readEither_b_L7 (g_readSum : HS → Int32 → Option HS) (g_readProduct : HS → Int32 → Option HS) (g_readUnit : HS → Int32 → Option HS) (g_readEither : HS → Int32 → Option HS) (g_readBoth : HS → Int32 → Option HS) (g_readOne : HS → Int32 → Option HS) (x1 : Int32) (w106 : HS → Option HS) : Nat → Int32 → HS → Option HS
  | 0, _, _ => none
  | fu + 1, x103, u104 =>
    if (400 ≤ x103) then (w106 u104)
    else ((mX5_takeWord u104 4).bind fun z108 => bd z108.1 fun x109 => bd z108.2 fun u110 =>
    if (x109 = 0) then ((g_readBoth u110 x1).bind fun u113 =>
    (mX1_emit u113 (gR u113 0) (-30)).bind fun u116 =>
    bd (x103 + 1) fun x117 =>
    mX2_readEither_b_L7 g_readSum g_readProduct g_readUnit g_readEither g_readBoth g_readOne x1 w106 fu x117 u116)
    else (w106 u110))
def mX2_readEither_b (g_readSum : HS → Int32 → Option HS) (g_readProduct : HS → Int32 → Option HS) (g_readUnit : HS → Int32 → Option HS) (g_readEither : HS → Int32 → Option HS) (g_readBoth : HS → Int32 → Option HS) (g_readOne : HS → Int32 → Option HS) (u0 : HS) (x1 : Int32) : Option HS :=
  (g_readBoth u0 x1).bind fun u102 =>
  jp (fun (u105 : HS) =>
  ((some u105) : Option HS)) fun w106 => mX2_readEither_b_L7 g_readSum g_readProduct g_readUnit g_readEither g_readBoth g_readOne x1 w106 FU 0 u102
def mX2_readBoth_b_L7 (g_readSum : HS → Int32 → Option HS) (g_readProduct : HS → Int32 → Option HS) (g_readUnit : HS → Int32 → Option HS) (g_readEither : HS → Int32 → Option HS) (g_readBoth : HS → Int32 → Option HS) (g_readOne : HS → Int32 → Option HS) (x1 : Int32) (w106 : HS → Option HS) : Nat → Int32 → HS → Option HS
  | 0, _, _ => none
  | fu + 1, x103, u104 =>
    if (400 ≤ x103) then (w106 u104)
    else ((mX5_takeWord u104 5).bind fun z108 => bd z108.1 fun x109 => bd z108.2 fun u110 =>
    if (x109 = 0) then ((g_readOne u110 x1).bind fun u113 =>
    (mX1_emit u113 (gR u113 0) (-29)).bind fun u116 =>
    bd (x103 + 1) fun x117 =>
    mX2_readBoth_b_L7 g_readSum g_readProduct g_readUnit g_readEither g_readBoth g_readOne x1 w106 fu x117 u116)
    else (w106 u110))
def mX2_readBoth_b (g_readSum : HS → Int32 → Option HS) (g_readProduct : HS → Int32 → Option HS) (g_readUnit : HS → Int32 → Option HS) (g_readEither : HS → Int32 → Option HS) (g_readBoth : HS → Int32 → Option HS) (g_readOne : HS → Int32 → Option HS) (u0 : HS) (x1 : Int32) : Option HS :=
  (g_readOne u0 x1).bind fun u102 =>
  jp (fun (u105 : HS) =>
  ((some u105) : Option HS)) fun w106 => mX2_readBoth_b_L7 g_readSum g_readProduct g_readUnit g_readEither g_readBoth g_readOne x1 w106 FU 0 u102
def mX2_readOne_b (g_readSum : HS → Int32 → Option HS) (g_readProduct : HS → Int32 → Option HS) (g_readUnit : HS → Int32 → Option HS) (g_readEither : HS → Int32 → Option HS) (g_readBoth : HS → Int32 → Option HS) (g_readOne : HS → Int32 → Option HS) (u0 : HS) (x1 : Int32) : Option HS :=
  (mX5_takeWord u0 6).bind fun z101 => bd z101.1 fun x102 => bd z101.2 fun u103 =>
  if (x102 = 0) then ((mX2_isTooDeep u103 x1).bind fun z129 => bd z129.1 fun x130 => bd z129.2 fun u131 =>
  if (x130 = 0) then ((g_readOne u131 (x1 + 1)).bind fun u134 =>
  (mX1_emit u134 (gR u134 0) (-31)).bind fun u137 =>
  some u137)
  else (some u131))
  else ((mX5_takeSign u103 7).bind fun z105 => bd z105.1 fun x106 => bd z105.2 fun u107 =>
  if (x106 = 0) then ((mX2_isTooDeep u107 x1).bind fun z120 => bd z120.1 fun x121 => bd z120.2 fun u122 =>
  if (x121 = 0) then ((g_readEither u122 (x1 + 1)).bind fun u125 =>
  (mX5_demandSign u125 8).bind fun z126 => bd z126.1 fun x127 => bd z126.2 fun u128 =>
  some u128)
  else (some u122))
  else ((g_readSum u107 x1).bind fun u110 =>
  (mX5_demandSign u110 9).bind fun z111 => bd z111.1 fun x112 => bd z111.2 fun u113 =>
  (g_readSum u113 x1).bind fun u115 =>
  bd (if (0 < x112) then x112 else 0) fun x117 =>
  (mX1_emit u115 (gR u115 0) ((-26) - x117)).bind fun u119 =>
  some u119))

def recX2 : Nat → Nat → HS → Int32 → Option HS
  | 0, _, _, _ => none
  | d + 1, w, u, x1 =>
    if w = 0 then mX2_readSum_b (recX2 d 0) (recX2 d 1) (recX2 d 2) (recX2 d 3) (recX2 d 4) (recX2 d 5) u x1
    else if w = 1 then mX2_readProduct_b (recX2 d 0) (recX2 d 1) (recX2 d 2) (recX2 d 3) (recX2 d 4) (recX2 d 5) u x1
    else if w = 2 then mX2_readUnit_b (recX2 d 0) (recX2 d 1) (recX2 d 2) (recX2 d 3) (recX2 d 4) (recX2 d 5) u x1
    else if w = 3 then mX2_readEither_b (recX2 d 0) (recX2 d 1) (recX2 d 2) (recX2 d 3) (recX2 d 4) (recX2 d 5) u x1
    else if w = 4 then mX2_readBoth_b (recX2 d 0) (recX2 d 1) (recX2 d 2) (recX2 d 3) (recX2 d 4) (recX2 d 5) u x1
    else mX2_readOne_b (recX2 d 0) (recX2 d 1) (recX2 d 2) (recX2 d 3) (recX2 d 4) (recX2 d 5) u x1
def mX2_readSum (u0 : HS) (x1 : Int32) : Option HS := recX2 DR 0 u0 x1
def mX2_readProduct (u0 : HS) (x1 : Int32) : Option HS := recX2 DR 1 u0 x1
def mX2_readUnit (u0 : HS) (x1 : Int32) : Option HS := recX2 DR 2 u0 x1
def mX2_readEither (u0 : HS) (x1 : Int32) : Option HS := recX2 DR 3 u0 x1
def mX2_readBoth (u0 : HS) (x1 : Int32) : Option HS := recX2 DR 4 u0 x1
def mX2_readOne (u0 : HS) (x1 : Int32) : Option HS := recX2 DR 5 u0 x1
def mX2_readClause (u0 : HS) (x1 : Int32) (x2 : Int32) : Option HS :=
  (ck 16 x2).bind fun k102 =>
  bd (wI u0 33 (gR u0 0) k102 x1) fun u103 =>
  (ck 16 x2).bind fun k106 =>
  bd (wI u103 34 (gR u103 0) k106 (gI u103 1 (gR u103 0) 1)) fun u107 =>
  (mX2_readSum u107 0).bind fun u109 =>
  (ck 16 x2).bind fun k112 =>
  bd (wI u109 35 (gR u109 0) k112 (gI u109 1 (gR u109 0) 1)) fun u113 =>
  (mX5_takeWord u113 11).bind fun z114 => bd z114.1 fun x115 => bd z114.2 fun u116 =>
  ((if (x115 = 0) then ((mX2_readEither u116 0).bind fun u127 =>
  some u127)
  else (some u116)) : Option HS).bind fun u117 =>
  (ck 16 x2).bind fun k121 =>
  bd (wI u117 36 (gR u117 0) k121 (gI u117 1 (gR u117 0) 1)) fun u122 =>
  bd (wI u122 1 (gR u122 0) 2 (x2 + 1)) fun u124 =>
  some u124
def mX2_read_L23  (w109 : HS → Option HS) : Nat → Int32 → HS → Option HS
  | 0, _, _ => none
  | fu + 1, x106, u107 =>
    if (16 < x106) then (w109 u107)
    else ((mX5_clauseWord u107 10 x106 16).bind fun z111 => bd z111.1 fun x112 => bd z111.2 fun u113 =>
    if (x112 = (-1)) then (some u113)
    else ((mX2_readClause u113 x112 x106).bind fun u116 =>
    (mX5_demandSign u116 0).bind fun z117 => bd z117.1 fun x118 => bd z117.2 fun u119 =>
    bd (x106 + 1) fun x120 =>
    mX2_read_L23  w109 fu x120 u119))
def mX2_read (u0 : HS) (i1 : Nat) : Option HS :=
  bd (wR u0 0 i1) fun u101 =>
  bd (wI u101 1 (gR u101 0) 1 0) fun u103 =>
  bd (wI u103 1 (gR u103 0) 2 0) fun u105 =>
  jp (fun (u108 : HS) =>
  ((some u108) : Option HS)) fun w109 => mX2_read_L23  w109 FU 0 u105
def mX9_lawClauseHere (u0 : HS) : Option HS :=
  (mX9_lawHere u0).bind fun z101 => bd z101.1 fun x102 => bd z101.2 fun u103 =>
  (mX9_needs u103 x102 16).bind fun u105 =>
  if ((gI u105 9 0 6) = 0) then ((mX9_skipWord u105).bind fun u108 =>
  (ck 24 (gI u108 9 0 9)).bind fun k109 =>
  (ck 8 0).bind fun k110 =>
  bd (wI u108 63 k109 k110 x102) fun u111 =>
  (ck 8 1).bind fun k112 =>
  bd (wI u111 63 k109 k112 (gI u111 9 0 8)) fun u113 =>
  (mX9_sum u113).bind fun u115 =>
  (ck 8 2).bind fun k116 =>
  bd (wI u115 63 k109 k116 (gI u115 9 0 8)) fun u117 =>
  (ck 8 3).bind fun k118 =>
  bd (wI u117 63 k109 k118 (-1)) fun u119 =>
  (mX9_isWord u119 9 6 0 0 0 0).bind fun z120 => bd z120.1 fun x121 => bd z120.2 fun u122 =>
  ((if (x121 = 0) then (some u122)
  else ((mX9_skipWord u122).bind fun u130 =>
  (mX9_ors u130).bind fun u132 =>
  (ck 8 3).bind fun k133 =>
  bd (wI u132 63 k109 k133 (gI u132 9 0 8)) fun u134 =>
  some u134)) : Option HS).bind fun u123 =>
  (mX9_sign u123 59).bind fun u126 =>
  bd (wI u126 9 0 9 ((gI u126 9 0 9) + 1)) fun u127 =>
  some u127)
  else (some u105)
def mX9_law_L152 (x125 : Int32) (w138 : HS → Option (Int32 × HS)) : Nat → Int32 → HS → Option (Int32 × HS)
  | 0, _, _ => none
  | fu + 1, x135, u136 =>
    if (4 ≤ x135) then (w138 u136)
    else ((ck 64 ((16 * (gI u136 9 0 16)) + x125)).bind fun k141 =>
    (ck 24 x125).bind fun k142 =>
    (ck 8 x135).bind fun k143 =>
    (ck 4 x135).bind fun k144 =>
    bd (wI u136 75 k141 k144 (gI u136 63 k142 k143)) fun u145 =>
    bd (x135 + 1) fun x146 =>
    mX9_law_L152 x125 w138 fu x146 u145)
def mX9_law_L142  (w128 : HS → Option (Int32 × HS)) : Nat → Int32 → HS → Option (Int32 × HS)
  | 0, _, _ => none
  | fu + 1, x125, u126 =>
    if ((gI u126 9 0 9) ≤ x125) then (w128 u126)
    else (jp (fun (u137 : HS) =>
    ((bd (x125 + 1) fun x139 =>
    mX9_law_L142  w128 fu x139 u137) : Option (Int32 × HS))) fun w138 => mX9_law_L152 x125 w138 FU 0 u126)
def mX9_law_L109  (w124 : HS → Option (Int32 × HS)) : Nat → Int32 → HS → Option (Int32 × HS)
  | 0, _, _ => none
  | fu + 1, x121, u122 =>
    if ((gI u122 9 0 8) ≤ x121) then (w124 u122)
    else ((ck 4 (gI u122 9 0 16)).bind fun k148 =>
    (ck 500 x121).bind fun k149 =>
    (ck 500 x121).bind fun k150 =>
    bd (wI u122 73 k148 k150 (gI u122 61 0 k149)) fun u151 =>
    bd (x121 + 1) fun x152 =>
    mX9_law_L109  w124 fu x152 u151)
def mX9_law_L55  (w118 : HS → Option (Int32 × HS)) : Nat → HS → Option (Int32 × HS)
  | 0, _ => none
  | fu + 1, u116 =>
    if ((gI u116 9 0 6) = 0) then (if ((gI u116 9 0 2) ≤ (gI u116 9 0 4)) then (w118 u116)
    else ((mX9_lawClauseHere u116).bind fun u156 =>
    (mX9_blanks u156).bind fun u158 =>
    mX9_law_L55  w118 fu u158))
    else (w118 u116)
def mX9_law (u0 : HS) (x1 : Int32) : Option (Int32 × HS) :=
  bd (wI u0 9 0 0 0) fun u101 =>
  (mX9_in x1 0 (gI u101 9 0 1)).bind fun x103 =>
  ((if (x103 = 0) then (some 1)
  else (some 0)) : Option Int32).bind fun x104 =>
  (mX9_bad u101 x104 1).bind fun z106 => bd z106.1 fun x107 => bd z106.2 fun u108 =>
  if (x107 = 0) then (((if ((gI u108 9 0 16) = 4) then (some 1)
  else (some 0)) : Option Int32).bind fun x110 =>
  (mX9_isRead u108 x1 x110).bind fun z112 => bd z112.1 fun x113 => bd z112.2 fun u114 =>
  if (x113 = 0) then (some ((-1), u114))
  else (jp (fun (u117 : HS) =>
  ((bd (wI u117 9 0 3 (gI u117 9 0 7)) fun u119 =>
  if ((gI u119 9 0 6) = 0) then (jp (fun (u123 : HS) =>
  ((jp (fun (u127 : HS) =>
  (((ck 4 (gI u127 9 0 16)).bind fun k129 =>
  bd (wI u127 76 0 k129 (gI u127 9 0 9)) fun u130 =>
  (ck 4 (gI u130 9 0 16)).bind fun k131 =>
  bd (wI u130 77 0 k131 1) fun u132 =>
  bd (wI u132 9 0 16 ((gI u132 9 0 16) + 1)) fun u133 =>
  some ((gI u133 9 0 16) - 1, u133)) : Option (Int32 × HS))) fun w128 => mX9_law_L142  w128 FU 0 u123) : Option (Int32 × HS))) fun w124 => mX9_law_L109  w124 FU 0 u119)
  else (some ((gI u119 9 0 6) - 10, u119))) : Option (Int32 × HS))) fun w118 => mX9_law_L55  w118 FU u114))
  else (some (0, u108))
