/-! a local array of four longs, made anew: region 91, which lives when register 20 is 1 -/
def wNL (σ : HS) : HS := (σ.1, fun r i k => if r = 91 then 0 else σ.2.1 r i k, fun k => if k = 20 then 1 else σ.2.2 k)
def al91 (σ : HS) : Option Unit := if gR σ 20 = 1 then some () else none
theorem gI_wNL {σ : HS} : gI (wNL σ) = gI σ := rfl
theorem gL_wNL {σ : HS} {r i k : Nat} : gL (wNL σ) r i k = if r = 91 then 0 else gL σ r i k := rfl
theorem gR_wNL {σ : HS} {k : Nat} : gR (wNL σ) k = if k = 20 then 1 else gR σ k := rfl
theorem al91_is {σ : HS} {u : Unit} (h : al91 σ = some u) : gR σ 20 = 1 := by
  unfold al91 at h
  by_cases c : gR σ 20 = 1
  · exact c
  · rw [if_neg c] at h; cases h
/-! the store at the start -/
def iniL : List (List Int32) := [[0, 0, 0, 0, 0, 0, 0, 0, 0, 0, 0, 0, 0, 0, 0, 0, 4], [], [], [0, 0, 0, 0, 0, 0, 0, 0, 0, -1, -1, 0, 0, 0], [0, 0, 0, -1, 0, 0], [0, 0, 0, 0, 0, 0, -1], [0, 0, -1, 4, 0], [0, 0, 0, 0, 0, 0, 0, -1, 0, 1], [], [0, 0, 0, -1, 0, 0, 0, 0, 0, 0, 0, 0, 0, 0, 0, 0, 0, 0, 0, 0, 0, 0, 0, 0, 0, 0, 0, 0, 0, 0, 0, 4, 0, 0, 0, 0, 0, 0, 0, 0, 1, 0, 0]]
def iniV (r k : Nat) : Int32 := (iniL.getD r []).getD k 0
/-- the store at the start -/
def σ0 : HS := (fun r _ k => if r < 10 then iniV r k else if r = 54 then -1 else if r = 31 then 1 else if r = 77 then 1 else 0, fun _ _ _ => 0, fun k => if k = 0 then 4 else if k = 1 then 6 else if k = 2 then 6 else 0)
def mX9_next_L112  (w137 : Int64 → Int64 → HS → Option (Int32 × HS)) : Nat → Int64 → Int64 → Int32 → HS → Option (Int32 × HS)
  | 0, _, _, _, _ => none
  | fu + 1, y130, y131, x132, u133 =>
    if ((gI u133 9 0 16) ≤ x132) then (w137 y130 y131 u133)
    else ((mX9_saysBy u133 x132 14 0).bind fun z146 => bd z146.1 fun x147 => bd z146.2 fun u148 =>
    jp (fun (y149 : Int64) (y150 : Int64) =>
    ((bd (x132 + 1) fun x152 =>
    mX9_next_L112  w137 fu y149 y150 x152 u148) : Option (Int32 × HS))) fun j151 =>
    if (x147 = 0) then ((al91 u148).bind fun _ =>
    (ck 4 x132).bind fun k155 =>
    bd (y131 + (gL u148 91 0 k155)) fun y156 =>
    j151 y130 y156)
    else ((al91 u148).bind fun _ =>
    (ck 4 x132).bind fun k158 =>
    bd (y130 + (gL u148 91 0 k158)) fun y159 =>
    j151 y159 y131))
def mX9_next_L40  (w113 : Int32 → HS → Option (Int32 × HS)) : Nat → Int32 → Int64 → Int32 → HS → Option (Int32 × HS)
  | 0, _, _, _, _ => none
  | fu + 1, x107, y108, x109, u110 =>
    if (((gI u110 9 0 14) * (gI u110 9 0 15)) ≤ x109) then (w113 x107 u110)
    else (if ((gI u110 9 0 16) ≤ 0) then (w113 x107 u110)
    else ((nz (gI u110 9 0 15)).bind fun _ =>
    bd (x109 / (gI u110 9 0 15)) fun x117 =>
    (nz (gI u110 9 0 15)).bind fun _ =>
    bd (x109 - x109 / (gI u110 9 0 15) * (gI u110 9 0 15)) fun x119 =>
    (mX9_oddOf u110 x117).bind fun x121 =>
    jp (fun (x122 : Int32) (y123 : Int64) (u124 : HS) =>
    ((bd (x109 + 1) fun x126 =>
    mX9_next_L40  w113 fu x122 y123 x126 u124) : Option (Int32 × HS))) fun j125 =>
    if (x121 = (-1)) then (j125 x107 y108 u110)
    else ((mX9_comes u110 14 x117 x119 0).bind fun u129 =>
    jp (fun (y134 : Int64) (y135 : Int64) (u136 : HS) =>
    ((((if (0 ≤ (lg_cmp y134 y135)) then (some y135)
    else (some y134)) : Option Int64).bind fun y138 =>
    jp (((bd ((10 * x117) + x119) fun x141 =>
    j125 x141 y138 u136) : Option (Int32 × HS))) fun j140 =>
    if (x107 = (-1)) then (j140)
    else (if (0 < (lg_cmp y138 y108)) then (j140)
    else (j125 x107 y108 u136))) : Option (Int32 × HS))) fun w137 => mX9_next_L112  w137 FU 0 0 0 u129)))
def mX9_next_L11  (w106 : HS → Option (Int32 × HS)) : Nat → Int32 → HS → Option (Int32 × HS)
  | 0, _, _ => none
  | fu + 1, x103, u104 =>
    if ((gI u104 9 0 16) ≤ x103) then (w106 u104)
    else ((mX9_oddsOf u104 x103).bind fun z161 => bd z161.1 fun y162 => bd z161.2 fun u163 =>
    (al91 u163).bind fun _ =>
    (ck 4 x103).bind fun k165 =>
    bd (wL u163 91 0 k165 y162) fun u166 =>
    bd (x103 + 1) fun x167 =>
    mX9_next_L11  w106 fu x167 u166)
def mX9_next (u0 : HS) : Option (Int32 × HS) :=
  bd (wI u0 9 0 0 0) fun u101 =>
  bd (wNL u101) fun u102 =>
  jp (fun (u105 : HS) =>
  ((jp (fun (x111 : Int32) (u112 : HS) =>
  ((some (x111, u112)) : Option (Int32 × HS))) fun w113 => mX9_next_L40  w113 FU (-1) 0 0 u105) : Option (Int32 × HS))) fun w106 => mX9_next_L11  w106 FU 0 u102
