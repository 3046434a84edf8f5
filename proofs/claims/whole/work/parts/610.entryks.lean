/-! ===== the Strings and statics at the law's entry ===== -/
def tmL : List (String × Nat) := [("MiddleUnseen$LawReader", 41), ("MiddleUnseen$LawReader", 100), ("MiddleUnseen$LawReader", 106), ("MiddleUnseen$LawReader", 108), ("MiddleUnseen$LawReader", 113), ("MiddleUnseen$LawReader", 118), ("MiddleUnseen$LawReader", 120), ("MiddleUnseen$LawReader", 122), ("MiddleUnseen$LawReader", 124), ("MiddleUnseen$LawReader", 126), ("MiddleUnseen$LawReader", 29), ("MiddleUnseen$LawReader", 61), ("MiddleUnseen$LawReader", 75), ("MiddleUnseen$LawReader", 86), ("MiddleUnseen$LawReader", 96), ("MiddleUnseen$LawReader", 98), ("MiddleUnseen$Scene", 55), ("MiddleUnseen$Task", 27)]
def tmC (i : Nat) : Term := .string (tmL.getD i ("", 0)).1 (tmL.getD i ("", 0)).2
def FL : List Cond := flatC (Cond.and given_1 narrow_1)
theorem fl_ex : ∀ i, i < 18 → Cond.exactly (tmC i) "java/lang/String" ∈ FL := by
  intro i hi
  match i, hi with
  | 0, _ => exact List.mem_of_getElem? (i := 521) (by decide +kernel)
  | 1, _ => exact List.mem_of_getElem? (i := 297) (by decide +kernel)
  | 2, _ => exact List.mem_of_getElem? (i := 309) (by decide +kernel)
  | 3, _ => exact List.mem_of_getElem? (i := 322) (by decide +kernel)
  | 4, _ => exact List.mem_of_getElem? (i := 496) (by decide +kernel)
  | 5, _ => exact List.mem_of_getElem? (i := 471) (by decide +kernel)
  | 6, _ => exact List.mem_of_getElem? (i := 388) (by decide +kernel)
  | 7, _ => exact List.mem_of_getElem? (i := 409) (by decide +kernel)
  | 8, _ => exact List.mem_of_getElem? (i := 428) (by decide +kernel)
  | 9, _ => exact List.mem_of_getElem? (i := 448) (by decide +kernel)
  | 10, _ => exact List.mem_of_getElem? (i := 179) (by decide +kernel)
  | 11, _ => exact List.mem_of_getElem? (i := 369) (by decide +kernel)
  | 12, _ => exact List.mem_of_getElem? (i := 352) (by decide +kernel)
  | 13, _ => exact List.mem_of_getElem? (i := 336) (by decide +kernel)
  | 14, _ => exact List.mem_of_getElem? (i := 208) (by decide +kernel)
  | 15, _ => exact List.mem_of_getElem? (i := 276) (by decide +kernel)
  | 16, _ => exact List.mem_of_getElem? (i := 103) (by decide +kernel)
  | 17, _ => exact List.mem_of_getElem? (i := 138) (by decide +kernel)
  | i + 18, h => exact absurd h (by omega)
theorem fl_co : ∀ i, i < 18 → Cond.eq (.field (tmC i) "java/lang/String" "coder" "B") (.int 0) ∈ FL := by
  intro i hi
  match i, hi with
  | 0, _ => exact List.mem_of_getElem? (i := 522) (by decide +kernel)
  | 1, _ => exact List.mem_of_getElem? (i := 298) (by decide +kernel)
  | 2, _ => exact List.mem_of_getElem? (i := 310) (by decide +kernel)
  | 3, _ => exact List.mem_of_getElem? (i := 323) (by decide +kernel)
  | 4, _ => exact List.mem_of_getElem? (i := 497) (by decide +kernel)
  | 5, _ => exact List.mem_of_getElem? (i := 472) (by decide +kernel)
  | 6, _ => exact List.mem_of_getElem? (i := 389) (by decide +kernel)
  | 7, _ => exact List.mem_of_getElem? (i := 410) (by decide +kernel)
  | 8, _ => exact List.mem_of_getElem? (i := 429) (by decide +kernel)
  | 9, _ => exact List.mem_of_getElem? (i := 449) (by decide +kernel)
  | 10, _ => exact List.mem_of_getElem? (i := 180) (by decide +kernel)
  | 11, _ => exact List.mem_of_getElem? (i := 370) (by decide +kernel)
  | 12, _ => exact List.mem_of_getElem? (i := 353) (by decide +kernel)
  | 13, _ => exact List.mem_of_getElem? (i := 337) (by decide +kernel)
  | 14, _ => exact List.mem_of_getElem? (i := 209) (by decide +kernel)
  | 15, _ => exact List.mem_of_getElem? (i := 277) (by decide +kernel)
  | 16, _ => exact List.mem_of_getElem? (i := 104) (by decide +kernel)
  | 17, _ => exact List.mem_of_getElem? (i := 139) (by decide +kernel)
  | i + 18, h => exact absurd h (by omega)
theorem fl_ar : ∀ i, i < 18 → Cond.arrayOf (.field (tmC i) "java/lang/String" "value" "[B") .byte ∈ FL := by
  intro i hi
  match i, hi with
  | 0, _ => exact List.mem_of_getElem? (i := 523) (by decide +kernel)
  | 1, _ => exact List.mem_of_getElem? (i := 299) (by decide +kernel)
  | 2, _ => exact List.mem_of_getElem? (i := 311) (by decide +kernel)
  | 3, _ => exact List.mem_of_getElem? (i := 324) (by decide +kernel)
  | 4, _ => exact List.mem_of_getElem? (i := 498) (by decide +kernel)
  | 5, _ => exact List.mem_of_getElem? (i := 473) (by decide +kernel)
  | 6, _ => exact List.mem_of_getElem? (i := 390) (by decide +kernel)
  | 7, _ => exact List.mem_of_getElem? (i := 411) (by decide +kernel)
  | 8, _ => exact List.mem_of_getElem? (i := 430) (by decide +kernel)
  | 9, _ => exact List.mem_of_getElem? (i := 450) (by decide +kernel)
  | 10, _ => exact List.mem_of_getElem? (i := 181) (by decide +kernel)
  | 11, _ => exact List.mem_of_getElem? (i := 371) (by decide +kernel)
  | 12, _ => exact List.mem_of_getElem? (i := 354) (by decide +kernel)
  | 13, _ => exact List.mem_of_getElem? (i := 338) (by decide +kernel)
  | 14, _ => exact List.mem_of_getElem? (i := 210) (by decide +kernel)
  | 15, _ => exact List.mem_of_getElem? (i := 278) (by decide +kernel)
  | 16, _ => exact List.mem_of_getElem? (i := 105) (by decide +kernel)
  | 17, _ => exact List.mem_of_getElem? (i := 140) (by decide +kernel)
  | i + 18, h => exact absurd h (by omega)
theorem fl_le : ∀ i, i < 18 → Cond.eq (.length (.field (tmC i) "java/lang/String" "value" "[B")) (.int (Int32.ofNat (lenC.getD i 0))) ∈ FL := by
  intro i hi
  match i, hi with
  | 0, _ => exact List.mem_of_getElem? (i := 524) (by decide +kernel)
  | 1, _ => exact List.mem_of_getElem? (i := 300) (by decide +kernel)
  | 2, _ => exact List.mem_of_getElem? (i := 312) (by decide +kernel)
  | 3, _ => exact List.mem_of_getElem? (i := 325) (by decide +kernel)
  | 4, _ => exact List.mem_of_getElem? (i := 499) (by decide +kernel)
  | 5, _ => exact List.mem_of_getElem? (i := 474) (by decide +kernel)
  | 6, _ => exact List.mem_of_getElem? (i := 391) (by decide +kernel)
  | 7, _ => exact List.mem_of_getElem? (i := 412) (by decide +kernel)
  | 8, _ => exact List.mem_of_getElem? (i := 431) (by decide +kernel)
  | 9, _ => exact List.mem_of_getElem? (i := 451) (by decide +kernel)
  | 10, _ => exact List.mem_of_getElem? (i := 182) (by decide +kernel)
  | 11, _ => exact List.mem_of_getElem? (i := 372) (by decide +kernel)
  | 12, _ => exact List.mem_of_getElem? (i := 355) (by decide +kernel)
  | 13, _ => exact List.mem_of_getElem? (i := 339) (by decide +kernel)
  | 14, _ => exact List.mem_of_getElem? (i := 211) (by decide +kernel)
  | 15, _ => exact List.mem_of_getElem? (i := 279) (by decide +kernel)
  | 16, _ => exact List.mem_of_getElem? (i := 106) (by decide +kernel)
  | 17, _ => exact List.mem_of_getElem? (i := 141) (by decide +kernel)
  | i + 18, h => exact absurd h (by omega)
theorem fl_el_0 : ∀ j, j < lenC.getD 0 0 → Cond.eq (.elem (.field (tmC 0) "java/lang/String" "value" "[B") (.int (Int32.ofNat j))) (.int ((bytC.getD 0 []).getD j 0)) ∈ FL := by
  intro j hj
  match j, hj with
  | 0, _ => exact List.mem_of_getElem? (i := 525) (by decide +kernel)
  | j + 1, h => exact absurd (show j + 1 < 1 from h) (by omega)
theorem fl_el_1 : ∀ j, j < lenC.getD 1 0 → Cond.eq (.elem (.field (tmC 1) "java/lang/String" "value" "[B") (.int (Int32.ofNat j))) (.int ((bytC.getD 1 []).getD j 0)) ∈ FL := by
  intro j hj
  match j, hj with
  | 0, _ => exact List.mem_of_getElem? (i := 301) (by decide +kernel)
  | j + 1, h => exact absurd (show j + 1 < 1 from h) (by omega)
theorem fl_el_2 : ∀ j, j < lenC.getD 2 0 → Cond.eq (.elem (.field (tmC 2) "java/lang/String" "value" "[B") (.int (Int32.ofNat j))) (.int ((bytC.getD 2 []).getD j 0)) ∈ FL := by
  intro j hj
  match j, hj with
  | 0, _ => exact List.mem_of_getElem? (i := 313) (by decide +kernel)
  | j + 1, h => exact absurd (show j + 1 < 1 from h) (by omega)
theorem fl_el_3 : ∀ j, j < lenC.getD 3 0 → Cond.eq (.elem (.field (tmC 3) "java/lang/String" "value" "[B") (.int (Int32.ofNat j))) (.int ((bytC.getD 3 []).getD j 0)) ∈ FL := by
  intro j hj
  match j, hj with
  | 0, _ => exact List.mem_of_getElem? (i := 326) (by decide +kernel)
  | j + 1, h => exact absurd (show j + 1 < 1 from h) (by omega)
theorem fl_el_4 : ∀ j, j < lenC.getD 4 0 → Cond.eq (.elem (.field (tmC 4) "java/lang/String" "value" "[B") (.int (Int32.ofNat j))) (.int ((bytC.getD 4 []).getD j 0)) ∈ FL := by
  intro j hj
  match j, hj with
  | 0, _ => exact List.mem_of_getElem? (i := 500) (by decide +kernel)
  | 1, _ => exact List.mem_of_getElem? (i := 501) (by decide +kernel)
  | 2, _ => exact List.mem_of_getElem? (i := 502) (by decide +kernel)
  | j + 3, h => exact absurd (show j + 3 < 3 from h) (by omega)
theorem fl_el_5 : ∀ j, j < lenC.getD 5 0 → Cond.eq (.elem (.field (tmC 5) "java/lang/String" "value" "[B") (.int (Int32.ofNat j))) (.int ((bytC.getD 5 []).getD j 0)) ∈ FL := by
  intro j hj
  match j, hj with
  | 0, _ => exact List.mem_of_getElem? (i := 475) (by decide +kernel)
  | 1, _ => exact List.mem_of_getElem? (i := 476) (by decide +kernel)
  | 2, _ => exact List.mem_of_getElem? (i := 477) (by decide +kernel)
  | 3, _ => exact List.mem_of_getElem? (i := 478) (by decide +kernel)
  | j + 4, h => exact absurd (show j + 4 < 4 from h) (by omega)
theorem fl_el_6 : ∀ j, j < lenC.getD 6 0 → Cond.eq (.elem (.field (tmC 6) "java/lang/String" "value" "[B") (.int (Int32.ofNat j))) (.int ((bytC.getD 6 []).getD j 0)) ∈ FL := by
  intro j hj
  match j, hj with
  | 0, _ => exact List.mem_of_getElem? (i := 392) (by decide +kernel)
  | 1, _ => exact List.mem_of_getElem? (i := 393) (by decide +kernel)
  | 2, _ => exact List.mem_of_getElem? (i := 394) (by decide +kernel)
  | 3, _ => exact List.mem_of_getElem? (i := 395) (by decide +kernel)
  | j + 4, h => exact absurd (show j + 4 < 4 from h) (by omega)
theorem fl_el_7 : ∀ j, j < lenC.getD 7 0 → Cond.eq (.elem (.field (tmC 7) "java/lang/String" "value" "[B") (.int (Int32.ofNat j))) (.int ((bytC.getD 7 []).getD j 0)) ∈ FL := by
  intro j hj
  match j, hj with
  | 0, _ => exact List.mem_of_getElem? (i := 413) (by decide +kernel)
  | j + 1, h => exact absurd (show j + 1 < 1 from h) (by omega)
theorem fl_el_8 : ∀ j, j < lenC.getD 8 0 → Cond.eq (.elem (.field (tmC 8) "java/lang/String" "value" "[B") (.int (Int32.ofNat j))) (.int ((bytC.getD 8 []).getD j 0)) ∈ FL := by
  intro j hj
  match j, hj with
  | 0, _ => exact List.mem_of_getElem? (i := 432) (by decide +kernel)
  | j + 1, h => exact absurd (show j + 1 < 1 from h) (by omega)
theorem fl_el_9 : ∀ j, j < lenC.getD 9 0 → Cond.eq (.elem (.field (tmC 9) "java/lang/String" "value" "[B") (.int (Int32.ofNat j))) (.int ((bytC.getD 9 []).getD j 0)) ∈ FL := by
  intro j hj
  match j, hj with
  | 0, _ => exact List.mem_of_getElem? (i := 452) (by decide +kernel)
  | 1, _ => exact List.mem_of_getElem? (i := 453) (by decide +kernel)
  | 2, _ => exact List.mem_of_getElem? (i := 454) (by decide +kernel)
  | j + 3, h => exact absurd (show j + 3 < 3 from h) (by omega)
theorem fl_el_10 : ∀ j, j < lenC.getD 10 0 → Cond.eq (.elem (.field (tmC 10) "java/lang/String" "value" "[B") (.int (Int32.ofNat j))) (.int ((bytC.getD 10 []).getD j 0)) ∈ FL := by
  intro j hj
  match j, hj with
  | 0, _ => exact List.mem_of_getElem? (i := 183) (by decide +kernel)
  | 1, _ => exact List.mem_of_getElem? (i := 184) (by decide +kernel)
  | 2, _ => exact List.mem_of_getElem? (i := 185) (by decide +kernel)
  | 3, _ => exact List.mem_of_getElem? (i := 186) (by decide +kernel)
  | 4, _ => exact List.mem_of_getElem? (i := 187) (by decide +kernel)
  | 5, _ => exact List.mem_of_getElem? (i := 188) (by decide +kernel)
  | 6, _ => exact List.mem_of_getElem? (i := 189) (by decide +kernel)
  | 7, _ => exact List.mem_of_getElem? (i := 190) (by decide +kernel)
  | 8, _ => exact List.mem_of_getElem? (i := 191) (by decide +kernel)
  | 9, _ => exact List.mem_of_getElem? (i := 192) (by decide +kernel)
  | 10, _ => exact List.mem_of_getElem? (i := 193) (by decide +kernel)
  | 11, _ => exact List.mem_of_getElem? (i := 194) (by decide +kernel)
  | 12, _ => exact List.mem_of_getElem? (i := 195) (by decide +kernel)
  | 13, _ => exact List.mem_of_getElem? (i := 196) (by decide +kernel)
  | 14, _ => exact List.mem_of_getElem? (i := 197) (by decide +kernel)
  | 15, _ => exact List.mem_of_getElem? (i := 198) (by decide +kernel)
  | 16, _ => exact List.mem_of_getElem? (i := 199) (by decide +kernel)
  | 17, _ => exact List.mem_of_getElem? (i := 200) (by decide +kernel)
  | 18, _ => exact List.mem_of_getElem? (i := 201) (by decide +kernel)
  | 19, _ => exact List.mem_of_getElem? (i := 202) (by decide +kernel)
  | 20, _ => exact List.mem_of_getElem? (i := 203) (by decide +kernel)
  | j + 21, h => exact absurd (show j + 21 < 21 from h) (by omega)
theorem fl_el_11 : ∀ j, j < lenC.getD 11 0 → Cond.eq (.elem (.field (tmC 11) "java/lang/String" "value" "[B") (.int (Int32.ofNat j))) (.int ((bytC.getD 11 []).getD j 0)) ∈ FL := by
  intro j hj
  match j, hj with
  | 0, _ => exact List.mem_of_getElem? (i := 373) (by decide +kernel)
  | 1, _ => exact List.mem_of_getElem? (i := 374) (by decide +kernel)
  | 2, _ => exact List.mem_of_getElem? (i := 375) (by decide +kernel)
  | j + 3, h => exact absurd (show j + 3 < 3 from h) (by omega)
theorem fl_el_12 : ∀ j, j < lenC.getD 12 0 → Cond.eq (.elem (.field (tmC 12) "java/lang/String" "value" "[B") (.int (Int32.ofNat j))) (.int ((bytC.getD 12 []).getD j 0)) ∈ FL := by
  intro j hj
  match j, hj with
  | 0, _ => exact List.mem_of_getElem? (i := 356) (by decide +kernel)
  | 1, _ => exact List.mem_of_getElem? (i := 357) (by decide +kernel)
  | j + 2, h => exact absurd (show j + 2 < 2 from h) (by omega)
theorem fl_el_13 : ∀ j, j < lenC.getD 13 0 → Cond.eq (.elem (.field (tmC 13) "java/lang/String" "value" "[B") (.int (Int32.ofNat j))) (.int ((bytC.getD 13 []).getD j 0)) ∈ FL := by
  intro j hj
  match j, hj with
  | 0, _ => exact List.mem_of_getElem? (i := 340) (by decide +kernel)
  | 1, _ => exact List.mem_of_getElem? (i := 341) (by decide +kernel)
  | j + 2, h => exact absurd (show j + 2 < 2 from h) (by omega)
theorem fl_el_14 : ∀ j, j < lenC.getD 14 0 → Cond.eq (.elem (.field (tmC 14) "java/lang/String" "value" "[B") (.int (Int32.ofNat j))) (.int ((bytC.getD 14 []).getD j 0)) ∈ FL := by
  intro j hj
  match j, hj with
  | 0, _ => exact List.mem_of_getElem? (i := 212) (by decide +kernel)
  | 1, _ => exact List.mem_of_getElem? (i := 213) (by decide +kernel)
  | 2, _ => exact List.mem_of_getElem? (i := 214) (by decide +kernel)
  | 3, _ => exact List.mem_of_getElem? (i := 215) (by decide +kernel)
  | 4, _ => exact List.mem_of_getElem? (i := 216) (by decide +kernel)
  | 5, _ => exact List.mem_of_getElem? (i := 217) (by decide +kernel)
  | 6, _ => exact List.mem_of_getElem? (i := 218) (by decide +kernel)
  | 7, _ => exact List.mem_of_getElem? (i := 219) (by decide +kernel)
  | 8, _ => exact List.mem_of_getElem? (i := 220) (by decide +kernel)
  | 9, _ => exact List.mem_of_getElem? (i := 221) (by decide +kernel)
  | 10, _ => exact List.mem_of_getElem? (i := 222) (by decide +kernel)
  | 11, _ => exact List.mem_of_getElem? (i := 223) (by decide +kernel)
  | 12, _ => exact List.mem_of_getElem? (i := 224) (by decide +kernel)
  | 13, _ => exact List.mem_of_getElem? (i := 225) (by decide +kernel)
  | 14, _ => exact List.mem_of_getElem? (i := 226) (by decide +kernel)
  | 15, _ => exact List.mem_of_getElem? (i := 227) (by decide +kernel)
  | 16, _ => exact List.mem_of_getElem? (i := 228) (by decide +kernel)
  | 17, _ => exact List.mem_of_getElem? (i := 229) (by decide +kernel)
  | 18, _ => exact List.mem_of_getElem? (i := 230) (by decide +kernel)
  | 19, _ => exact List.mem_of_getElem? (i := 231) (by decide +kernel)
  | 20, _ => exact List.mem_of_getElem? (i := 232) (by decide +kernel)
  | 21, _ => exact List.mem_of_getElem? (i := 233) (by decide +kernel)
  | 22, _ => exact List.mem_of_getElem? (i := 234) (by decide +kernel)
  | 23, _ => exact List.mem_of_getElem? (i := 235) (by decide +kernel)
  | 24, _ => exact List.mem_of_getElem? (i := 236) (by decide +kernel)
  | 25, _ => exact List.mem_of_getElem? (i := 237) (by decide +kernel)
  | 26, _ => exact List.mem_of_getElem? (i := 238) (by decide +kernel)
  | 27, _ => exact List.mem_of_getElem? (i := 239) (by decide +kernel)
  | 28, _ => exact List.mem_of_getElem? (i := 240) (by decide +kernel)
  | 29, _ => exact List.mem_of_getElem? (i := 241) (by decide +kernel)
  | 30, _ => exact List.mem_of_getElem? (i := 242) (by decide +kernel)
  | 31, _ => exact List.mem_of_getElem? (i := 243) (by decide +kernel)
  | 32, _ => exact List.mem_of_getElem? (i := 244) (by decide +kernel)
  | 33, _ => exact List.mem_of_getElem? (i := 245) (by decide +kernel)
  | 34, _ => exact List.mem_of_getElem? (i := 246) (by decide +kernel)
  | 35, _ => exact List.mem_of_getElem? (i := 247) (by decide +kernel)
  | 36, _ => exact List.mem_of_getElem? (i := 248) (by decide +kernel)
  | 37, _ => exact List.mem_of_getElem? (i := 249) (by decide +kernel)
  | 38, _ => exact List.mem_of_getElem? (i := 250) (by decide +kernel)
  | 39, _ => exact List.mem_of_getElem? (i := 251) (by decide +kernel)
  | 40, _ => exact List.mem_of_getElem? (i := 252) (by decide +kernel)
  | 41, _ => exact List.mem_of_getElem? (i := 253) (by decide +kernel)
  | 42, _ => exact List.mem_of_getElem? (i := 254) (by decide +kernel)
  | 43, _ => exact List.mem_of_getElem? (i := 255) (by decide +kernel)
  | 44, _ => exact List.mem_of_getElem? (i := 256) (by decide +kernel)
  | 45, _ => exact List.mem_of_getElem? (i := 257) (by decide +kernel)
  | 46, _ => exact List.mem_of_getElem? (i := 258) (by decide +kernel)
  | 47, _ => exact List.mem_of_getElem? (i := 259) (by decide +kernel)
  | 48, _ => exact List.mem_of_getElem? (i := 260) (by decide +kernel)
  | 49, _ => exact List.mem_of_getElem? (i := 261) (by decide +kernel)
  | 50, _ => exact List.mem_of_getElem? (i := 262) (by decide +kernel)
  | 51, _ => exact List.mem_of_getElem? (i := 263) (by decide +kernel)
  | 52, _ => exact List.mem_of_getElem? (i := 264) (by decide +kernel)
  | 53, _ => exact List.mem_of_getElem? (i := 265) (by decide +kernel)
  | 54, _ => exact List.mem_of_getElem? (i := 266) (by decide +kernel)
  | 55, _ => exact List.mem_of_getElem? (i := 267) (by decide +kernel)
  | 56, _ => exact List.mem_of_getElem? (i := 268) (by decide +kernel)
  | 57, _ => exact List.mem_of_getElem? (i := 269) (by decide +kernel)
  | 58, _ => exact List.mem_of_getElem? (i := 270) (by decide +kernel)
  | j + 59, h => exact absurd (show j + 59 < 59 from h) (by omega)
theorem fl_el_15 : ∀ j, j < lenC.getD 15 0 → Cond.eq (.elem (.field (tmC 15) "java/lang/String" "value" "[B") (.int (Int32.ofNat j))) (.int ((bytC.getD 15 []).getD j 0)) ∈ FL := by
  intro j hj
  match j, hj with
  | 0, _ => exact List.mem_of_getElem? (i := 280) (by decide +kernel)
  | 1, _ => exact List.mem_of_getElem? (i := 281) (by decide +kernel)
  | 2, _ => exact List.mem_of_getElem? (i := 282) (by decide +kernel)
  | 3, _ => exact List.mem_of_getElem? (i := 283) (by decide +kernel)
  | 4, _ => exact List.mem_of_getElem? (i := 284) (by decide +kernel)
  | 5, _ => exact List.mem_of_getElem? (i := 285) (by decide +kernel)
  | 6, _ => exact List.mem_of_getElem? (i := 286) (by decide +kernel)
  | 7, _ => exact List.mem_of_getElem? (i := 287) (by decide +kernel)
  | 8, _ => exact List.mem_of_getElem? (i := 288) (by decide +kernel)
  | 9, _ => exact List.mem_of_getElem? (i := 289) (by decide +kernel)
  | 10, _ => exact List.mem_of_getElem? (i := 290) (by decide +kernel)
  | j + 11, h => exact absurd (show j + 11 < 11 from h) (by omega)
theorem fl_el_16 : ∀ j, j < lenC.getD 16 0 → Cond.eq (.elem (.field (tmC 16) "java/lang/String" "value" "[B") (.int (Int32.ofNat j))) (.int ((bytC.getD 16 []).getD j 0)) ∈ FL := by
  intro j hj
  match j, hj with
  | 0, _ => exact List.mem_of_getElem? (i := 107) (by decide +kernel)
  | 1, _ => exact List.mem_of_getElem? (i := 108) (by decide +kernel)
  | 2, _ => exact List.mem_of_getElem? (i := 109) (by decide +kernel)
  | 3, _ => exact List.mem_of_getElem? (i := 110) (by decide +kernel)
  | 4, _ => exact List.mem_of_getElem? (i := 111) (by decide +kernel)
  | 5, _ => exact List.mem_of_getElem? (i := 112) (by decide +kernel)
  | 6, _ => exact List.mem_of_getElem? (i := 113) (by decide +kernel)
  | 7, _ => exact List.mem_of_getElem? (i := 114) (by decide +kernel)
  | 8, _ => exact List.mem_of_getElem? (i := 115) (by decide +kernel)
  | 9, _ => exact List.mem_of_getElem? (i := 116) (by decide +kernel)
  | 10, _ => exact List.mem_of_getElem? (i := 117) (by decide +kernel)
  | 11, _ => exact List.mem_of_getElem? (i := 118) (by decide +kernel)
  | 12, _ => exact List.mem_of_getElem? (i := 119) (by decide +kernel)
  | 13, _ => exact List.mem_of_getElem? (i := 120) (by decide +kernel)
  | 14, _ => exact List.mem_of_getElem? (i := 121) (by decide +kernel)
  | 15, _ => exact List.mem_of_getElem? (i := 122) (by decide +kernel)
  | 16, _ => exact List.mem_of_getElem? (i := 123) (by decide +kernel)
  | 17, _ => exact List.mem_of_getElem? (i := 124) (by decide +kernel)
  | 18, _ => exact List.mem_of_getElem? (i := 125) (by decide +kernel)
  | 19, _ => exact List.mem_of_getElem? (i := 126) (by decide +kernel)
  | 20, _ => exact List.mem_of_getElem? (i := 127) (by decide +kernel)
  | 21, _ => exact List.mem_of_getElem? (i := 128) (by decide +kernel)
  | 22, _ => exact List.mem_of_getElem? (i := 129) (by decide +kernel)
  | 23, _ => exact List.mem_of_getElem? (i := 130) (by decide +kernel)
  | 24, _ => exact List.mem_of_getElem? (i := 131) (by decide +kernel)
  | j + 25, h => exact absurd (show j + 25 < 25 from h) (by omega)
theorem fl_el_17 : ∀ j, j < lenC.getD 17 0 → Cond.eq (.elem (.field (tmC 17) "java/lang/String" "value" "[B") (.int (Int32.ofNat j))) (.int ((bytC.getD 17 []).getD j 0)) ∈ FL := by
  intro j hj
  match j, hj with
  | 0, _ => exact List.mem_of_getElem? (i := 142) (by decide +kernel)
  | 1, _ => exact List.mem_of_getElem? (i := 143) (by decide +kernel)
  | 2, _ => exact List.mem_of_getElem? (i := 144) (by decide +kernel)
  | 3, _ => exact List.mem_of_getElem? (i := 145) (by decide +kernel)
  | 4, _ => exact List.mem_of_getElem? (i := 146) (by decide +kernel)
  | 5, _ => exact List.mem_of_getElem? (i := 147) (by decide +kernel)
  | 6, _ => exact List.mem_of_getElem? (i := 148) (by decide +kernel)
  | 7, _ => exact List.mem_of_getElem? (i := 149) (by decide +kernel)
  | 8, _ => exact List.mem_of_getElem? (i := 150) (by decide +kernel)
  | 9, _ => exact List.mem_of_getElem? (i := 151) (by decide +kernel)
  | 10, _ => exact List.mem_of_getElem? (i := 152) (by decide +kernel)
  | 11, _ => exact List.mem_of_getElem? (i := 153) (by decide +kernel)
  | 12, _ => exact List.mem_of_getElem? (i := 154) (by decide +kernel)
  | 13, _ => exact List.mem_of_getElem? (i := 155) (by decide +kernel)
  | 14, _ => exact List.mem_of_getElem? (i := 156) (by decide +kernel)
  | 15, _ => exact List.mem_of_getElem? (i := 157) (by decide +kernel)
  | 16, _ => exact List.mem_of_getElem? (i := 158) (by decide +kernel)
  | 17, _ => exact List.mem_of_getElem? (i := 159) (by decide +kernel)
  | 18, _ => exact List.mem_of_getElem? (i := 160) (by decide +kernel)
  | 19, _ => exact List.mem_of_getElem? (i := 161) (by decide +kernel)
  | 20, _ => exact List.mem_of_getElem? (i := 162) (by decide +kernel)
  | 21, _ => exact List.mem_of_getElem? (i := 163) (by decide +kernel)
  | 22, _ => exact List.mem_of_getElem? (i := 164) (by decide +kernel)
  | 23, _ => exact List.mem_of_getElem? (i := 165) (by decide +kernel)
  | 24, _ => exact List.mem_of_getElem? (i := 166) (by decide +kernel)
  | 25, _ => exact List.mem_of_getElem? (i := 167) (by decide +kernel)
  | 26, _ => exact List.mem_of_getElem? (i := 168) (by decide +kernel)
  | j + 27, h => exact absurd (show j + 27 < 27 from h) (by omega)
theorem fl_el : ∀ i, i < 18 → ∀ j, j < lenC.getD i 0 → Cond.eq (.elem (.field (tmC i) "java/lang/String" "value" "[B") (.int (Int32.ofNat j))) (.int ((bytC.getD i []).getD j 0)) ∈ FL := by
  intro i hi
  match i, hi with
  | 0, _ => exact fl_el_0
  | 1, _ => exact fl_el_1
  | 2, _ => exact fl_el_2
  | 3, _ => exact fl_el_3
  | 4, _ => exact fl_el_4
  | 5, _ => exact fl_el_5
  | 6, _ => exact fl_el_6
  | 7, _ => exact fl_el_7
  | 8, _ => exact fl_el_8
  | 9, _ => exact fl_el_9
  | 10, _ => exact fl_el_10
  | 11, _ => exact fl_el_11
  | 12, _ => exact fl_el_12
  | 13, _ => exact fl_el_13
  | 14, _ => exact fl_el_14
  | 15, _ => exact fl_el_15
  | 16, _ => exact fl_el_16
  | 17, _ => exact fl_el_17
  | i + 18, h => exact absurd h (by omega)
theorem fl_ne_0 : ∀ j, j < 18 → 0 ≠ j → Cond.not (Cond.eq (tmC 0) (tmC j)) ∈ FL ∨ Cond.not (Cond.eq (tmC j) (tmC 0)) ∈ FL := by
  intro j hj hne
  match j, hj, hne with
  | 0, _, h => exact absurd rfl h
  | 1, _, _ => exact Or.inr (List.mem_of_getElem? (i := 533) (by decide +kernel))
  | 2, _, _ => exact Or.inr (List.mem_of_getElem? (i := 534) (by decide +kernel))
  | 3, _, _ => exact Or.inr (List.mem_of_getElem? (i := 535) (by decide +kernel))
  | 4, _, _ => exact Or.inr (List.mem_of_getElem? (i := 544) (by decide +kernel))
  | 5, _, _ => exact Or.inr (List.mem_of_getElem? (i := 543) (by decide +kernel))
  | 6, _, _ => exact Or.inr (List.mem_of_getElem? (i := 539) (by decide +kernel))
  | 7, _, _ => exact Or.inr (List.mem_of_getElem? (i := 540) (by decide +kernel))
  | 8, _, _ => exact Or.inr (List.mem_of_getElem? (i := 541) (by decide +kernel))
  | 9, _, _ => exact Or.inr (List.mem_of_getElem? (i := 542) (by decide +kernel))
  | 10, _, _ => exact Or.inr (List.mem_of_getElem? (i := 530) (by decide +kernel))
  | 11, _, _ => exact Or.inr (List.mem_of_getElem? (i := 538) (by decide +kernel))
  | 12, _, _ => exact Or.inr (List.mem_of_getElem? (i := 537) (by decide +kernel))
  | 13, _, _ => exact Or.inr (List.mem_of_getElem? (i := 536) (by decide +kernel))
  | 14, _, _ => exact Or.inr (List.mem_of_getElem? (i := 531) (by decide +kernel))
  | 15, _, _ => exact Or.inr (List.mem_of_getElem? (i := 532) (by decide +kernel))
  | 16, _, _ => exact Or.inr (List.mem_of_getElem? (i := 526) (by decide +kernel))
  | 17, _, _ => exact Or.inr (List.mem_of_getElem? (i := 528) (by decide +kernel))
  | j + 18, h, _ => exact absurd h (by omega)
theorem fl_ne_1 : ∀ j, j < 18 → 1 ≠ j → Cond.not (Cond.eq (tmC 1) (tmC j)) ∈ FL ∨ Cond.not (Cond.eq (tmC j) (tmC 1)) ∈ FL := by
  intro j hj hne
  match j, hj, hne with
  | 0, _, _ => exact Or.inl (List.mem_of_getElem? (i := 533) (by decide +kernel))
  | 1, _, h => exact absurd rfl h
  | 2, _, _ => exact Or.inl (List.mem_of_getElem? (i := 321) (by decide +kernel))
  | 3, _, _ => exact Or.inl (List.mem_of_getElem? (i := 334) (by decide +kernel))
  | 4, _, _ => exact Or.inl (List.mem_of_getElem? (i := 510) (by decide +kernel))
  | 5, _, _ => exact Or.inl (List.mem_of_getElem? (i := 486) (by decide +kernel))
  | 6, _, _ => exact Or.inl (List.mem_of_getElem? (i := 403) (by decide +kernel))
  | 7, _, _ => exact Or.inl (List.mem_of_getElem? (i := 421) (by decide +kernel))
  | 8, _, _ => exact Or.inl (List.mem_of_getElem? (i := 440) (by decide +kernel))
  | 9, _, _ => exact Or.inl (List.mem_of_getElem? (i := 462) (by decide +kernel))
  | 10, _, _ => exact Or.inr (List.mem_of_getElem? (i := 306) (by decide +kernel))
  | 11, _, _ => exact Or.inl (List.mem_of_getElem? (i := 383) (by decide +kernel))
  | 12, _, _ => exact Or.inl (List.mem_of_getElem? (i := 365) (by decide +kernel))
  | 13, _, _ => exact Or.inl (List.mem_of_getElem? (i := 349) (by decide +kernel))
  | 14, _, _ => exact Or.inr (List.mem_of_getElem? (i := 307) (by decide +kernel))
  | 15, _, _ => exact Or.inr (List.mem_of_getElem? (i := 308) (by decide +kernel))
  | 16, _, _ => exact Or.inr (List.mem_of_getElem? (i := 302) (by decide +kernel))
  | 17, _, _ => exact Or.inr (List.mem_of_getElem? (i := 304) (by decide +kernel))
  | j + 18, h, _ => exact absurd h (by omega)
theorem fl_ne_2 : ∀ j, j < 18 → 2 ≠ j → Cond.not (Cond.eq (tmC 2) (tmC j)) ∈ FL ∨ Cond.not (Cond.eq (tmC j) (tmC 2)) ∈ FL := by
  intro j hj hne
  match j, hj, hne with
  | 0, _, _ => exact Or.inl (List.mem_of_getElem? (i := 534) (by decide +kernel))
  | 1, _, _ => exact Or.inr (List.mem_of_getElem? (i := 321) (by decide +kernel))
  | 2, _, h => exact absurd rfl h
  | 3, _, _ => exact Or.inl (List.mem_of_getElem? (i := 335) (by decide +kernel))
  | 4, _, _ => exact Or.inl (List.mem_of_getElem? (i := 511) (by decide +kernel))
  | 5, _, _ => exact Or.inl (List.mem_of_getElem? (i := 487) (by decide +kernel))
  | 6, _, _ => exact Or.inl (List.mem_of_getElem? (i := 404) (by decide +kernel))
  | 7, _, _ => exact Or.inl (List.mem_of_getElem? (i := 422) (by decide +kernel))
  | 8, _, _ => exact Or.inl (List.mem_of_getElem? (i := 441) (by decide +kernel))
  | 9, _, _ => exact Or.inl (List.mem_of_getElem? (i := 463) (by decide +kernel))
  | 10, _, _ => exact Or.inr (List.mem_of_getElem? (i := 318) (by decide +kernel))
  | 11, _, _ => exact Or.inl (List.mem_of_getElem? (i := 384) (by decide +kernel))
  | 12, _, _ => exact Or.inl (List.mem_of_getElem? (i := 366) (by decide +kernel))
  | 13, _, _ => exact Or.inl (List.mem_of_getElem? (i := 350) (by decide +kernel))
  | 14, _, _ => exact Or.inr (List.mem_of_getElem? (i := 319) (by decide +kernel))
  | 15, _, _ => exact Or.inr (List.mem_of_getElem? (i := 320) (by decide +kernel))
  | 16, _, _ => exact Or.inr (List.mem_of_getElem? (i := 314) (by decide +kernel))
  | 17, _, _ => exact Or.inr (List.mem_of_getElem? (i := 316) (by decide +kernel))
  | j + 18, h, _ => exact absurd h (by omega)
theorem fl_ne_3 : ∀ j, j < 18 → 3 ≠ j → Cond.not (Cond.eq (tmC 3) (tmC j)) ∈ FL ∨ Cond.not (Cond.eq (tmC j) (tmC 3)) ∈ FL := by
  intro j hj hne
  match j, hj, hne with
  | 0, _, _ => exact Or.inl (List.mem_of_getElem? (i := 535) (by decide +kernel))
  | 1, _, _ => exact Or.inr (List.mem_of_getElem? (i := 334) (by decide +kernel))
  | 2, _, _ => exact Or.inr (List.mem_of_getElem? (i := 335) (by decide +kernel))
  | 3, _, h => exact absurd rfl h
  | 4, _, _ => exact Or.inl (List.mem_of_getElem? (i := 512) (by decide +kernel))
  | 5, _, _ => exact Or.inl (List.mem_of_getElem? (i := 488) (by decide +kernel))
  | 6, _, _ => exact Or.inl (List.mem_of_getElem? (i := 405) (by decide +kernel))
  | 7, _, _ => exact Or.inl (List.mem_of_getElem? (i := 423) (by decide +kernel))
  | 8, _, _ => exact Or.inl (List.mem_of_getElem? (i := 442) (by decide +kernel))
  | 9, _, _ => exact Or.inl (List.mem_of_getElem? (i := 464) (by decide +kernel))
  | 10, _, _ => exact Or.inr (List.mem_of_getElem? (i := 331) (by decide +kernel))
  | 11, _, _ => exact Or.inl (List.mem_of_getElem? (i := 385) (by decide +kernel))
  | 12, _, _ => exact Or.inl (List.mem_of_getElem? (i := 367) (by decide +kernel))
  | 13, _, _ => exact Or.inl (List.mem_of_getElem? (i := 351) (by decide +kernel))
  | 14, _, _ => exact Or.inr (List.mem_of_getElem? (i := 332) (by decide +kernel))
  | 15, _, _ => exact Or.inr (List.mem_of_getElem? (i := 333) (by decide +kernel))
  | 16, _, _ => exact Or.inr (List.mem_of_getElem? (i := 327) (by decide +kernel))
  | 17, _, _ => exact Or.inr (List.mem_of_getElem? (i := 329) (by decide +kernel))
  | j + 18, h, _ => exact absurd h (by omega)
theorem fl_ne_4 : ∀ j, j < 18 → 4 ≠ j → Cond.not (Cond.eq (tmC 4) (tmC j)) ∈ FL ∨ Cond.not (Cond.eq (tmC j) (tmC 4)) ∈ FL := by
  intro j hj hne
  match j, hj, hne with
  | 0, _, _ => exact Or.inl (List.mem_of_getElem? (i := 544) (by decide +kernel))
  | 1, _, _ => exact Or.inr (List.mem_of_getElem? (i := 510) (by decide +kernel))
  | 2, _, _ => exact Or.inr (List.mem_of_getElem? (i := 511) (by decide +kernel))
  | 3, _, _ => exact Or.inr (List.mem_of_getElem? (i := 512) (by decide +kernel))
  | 4, _, h => exact absurd rfl h
  | 5, _, _ => exact Or.inr (List.mem_of_getElem? (i := 520) (by decide +kernel))
  | 6, _, _ => exact Or.inr (List.mem_of_getElem? (i := 516) (by decide +kernel))
  | 7, _, _ => exact Or.inr (List.mem_of_getElem? (i := 517) (by decide +kernel))
  | 8, _, _ => exact Or.inr (List.mem_of_getElem? (i := 518) (by decide +kernel))
  | 9, _, _ => exact Or.inr (List.mem_of_getElem? (i := 519) (by decide +kernel))
  | 10, _, _ => exact Or.inr (List.mem_of_getElem? (i := 507) (by decide +kernel))
  | 11, _, _ => exact Or.inr (List.mem_of_getElem? (i := 515) (by decide +kernel))
  | 12, _, _ => exact Or.inr (List.mem_of_getElem? (i := 514) (by decide +kernel))
  | 13, _, _ => exact Or.inr (List.mem_of_getElem? (i := 513) (by decide +kernel))
  | 14, _, _ => exact Or.inr (List.mem_of_getElem? (i := 508) (by decide +kernel))
  | 15, _, _ => exact Or.inr (List.mem_of_getElem? (i := 509) (by decide +kernel))
  | 16, _, _ => exact Or.inr (List.mem_of_getElem? (i := 503) (by decide +kernel))
  | 17, _, _ => exact Or.inr (List.mem_of_getElem? (i := 505) (by decide +kernel))
  | j + 18, h, _ => exact absurd h (by omega)
theorem fl_ne_5 : ∀ j, j < 18 → 5 ≠ j → Cond.not (Cond.eq (tmC 5) (tmC j)) ∈ FL ∨ Cond.not (Cond.eq (tmC j) (tmC 5)) ∈ FL := by
  intro j hj hne
  match j, hj, hne with
  | 0, _, _ => exact Or.inl (List.mem_of_getElem? (i := 543) (by decide +kernel))
  | 1, _, _ => exact Or.inr (List.mem_of_getElem? (i := 486) (by decide +kernel))
  | 2, _, _ => exact Or.inr (List.mem_of_getElem? (i := 487) (by decide +kernel))
  | 3, _, _ => exact Or.inr (List.mem_of_getElem? (i := 488) (by decide +kernel))
  | 4, _, _ => exact Or.inl (List.mem_of_getElem? (i := 520) (by decide +kernel))
  | 5, _, h => exact absurd rfl h
  | 6, _, _ => exact Or.inr (List.mem_of_getElem? (i := 492) (by decide +kernel))
  | 7, _, _ => exact Or.inr (List.mem_of_getElem? (i := 493) (by decide +kernel))
  | 8, _, _ => exact Or.inr (List.mem_of_getElem? (i := 494) (by decide +kernel))
  | 9, _, _ => exact Or.inr (List.mem_of_getElem? (i := 495) (by decide +kernel))
  | 10, _, _ => exact Or.inr (List.mem_of_getElem? (i := 483) (by decide +kernel))
  | 11, _, _ => exact Or.inr (List.mem_of_getElem? (i := 491) (by decide +kernel))
  | 12, _, _ => exact Or.inr (List.mem_of_getElem? (i := 490) (by decide +kernel))
  | 13, _, _ => exact Or.inr (List.mem_of_getElem? (i := 489) (by decide +kernel))
  | 14, _, _ => exact Or.inr (List.mem_of_getElem? (i := 484) (by decide +kernel))
  | 15, _, _ => exact Or.inr (List.mem_of_getElem? (i := 485) (by decide +kernel))
  | 16, _, _ => exact Or.inr (List.mem_of_getElem? (i := 479) (by decide +kernel))
  | 17, _, _ => exact Or.inr (List.mem_of_getElem? (i := 481) (by decide +kernel))
  | j + 18, h, _ => exact absurd h (by omega)
theorem fl_ne_6 : ∀ j, j < 18 → 6 ≠ j → Cond.not (Cond.eq (tmC 6) (tmC j)) ∈ FL ∨ Cond.not (Cond.eq (tmC j) (tmC 6)) ∈ FL := by
  intro j hj hne
  match j, hj, hne with
  | 0, _, _ => exact Or.inl (List.mem_of_getElem? (i := 539) (by decide +kernel))
  | 1, _, _ => exact Or.inr (List.mem_of_getElem? (i := 403) (by decide +kernel))
  | 2, _, _ => exact Or.inr (List.mem_of_getElem? (i := 404) (by decide +kernel))
  | 3, _, _ => exact Or.inr (List.mem_of_getElem? (i := 405) (by decide +kernel))
  | 4, _, _ => exact Or.inl (List.mem_of_getElem? (i := 516) (by decide +kernel))
  | 5, _, _ => exact Or.inl (List.mem_of_getElem? (i := 492) (by decide +kernel))
  | 6, _, h => exact absurd rfl h
  | 7, _, _ => exact Or.inl (List.mem_of_getElem? (i := 427) (by decide +kernel))
  | 8, _, _ => exact Or.inl (List.mem_of_getElem? (i := 446) (by decide +kernel))
  | 9, _, _ => exact Or.inl (List.mem_of_getElem? (i := 468) (by decide +kernel))
  | 10, _, _ => exact Or.inr (List.mem_of_getElem? (i := 400) (by decide +kernel))
  | 11, _, _ => exact Or.inr (List.mem_of_getElem? (i := 408) (by decide +kernel))
  | 12, _, _ => exact Or.inr (List.mem_of_getElem? (i := 407) (by decide +kernel))
  | 13, _, _ => exact Or.inr (List.mem_of_getElem? (i := 406) (by decide +kernel))
  | 14, _, _ => exact Or.inr (List.mem_of_getElem? (i := 401) (by decide +kernel))
  | 15, _, _ => exact Or.inr (List.mem_of_getElem? (i := 402) (by decide +kernel))
  | 16, _, _ => exact Or.inr (List.mem_of_getElem? (i := 396) (by decide +kernel))
  | 17, _, _ => exact Or.inr (List.mem_of_getElem? (i := 398) (by decide +kernel))
  | j + 18, h, _ => exact absurd h (by omega)
theorem fl_ne_7 : ∀ j, j < 18 → 7 ≠ j → Cond.not (Cond.eq (tmC 7) (tmC j)) ∈ FL ∨ Cond.not (Cond.eq (tmC j) (tmC 7)) ∈ FL := by
  intro j hj hne
  match j, hj, hne with
  | 0, _, _ => exact Or.inl (List.mem_of_getElem? (i := 540) (by decide +kernel))
  | 1, _, _ => exact Or.inr (List.mem_of_getElem? (i := 421) (by decide +kernel))
  | 2, _, _ => exact Or.inr (List.mem_of_getElem? (i := 422) (by decide +kernel))
  | 3, _, _ => exact Or.inr (List.mem_of_getElem? (i := 423) (by decide +kernel))
  | 4, _, _ => exact Or.inl (List.mem_of_getElem? (i := 517) (by decide +kernel))
  | 5, _, _ => exact Or.inl (List.mem_of_getElem? (i := 493) (by decide +kernel))
  | 6, _, _ => exact Or.inr (List.mem_of_getElem? (i := 427) (by decide +kernel))
  | 7, _, h => exact absurd rfl h
  | 8, _, _ => exact Or.inl (List.mem_of_getElem? (i := 447) (by decide +kernel))
  | 9, _, _ => exact Or.inl (List.mem_of_getElem? (i := 469) (by decide +kernel))
  | 10, _, _ => exact Or.inr (List.mem_of_getElem? (i := 418) (by decide +kernel))
  | 11, _, _ => exact Or.inr (List.mem_of_getElem? (i := 426) (by decide +kernel))
  | 12, _, _ => exact Or.inr (List.mem_of_getElem? (i := 425) (by decide +kernel))
  | 13, _, _ => exact Or.inr (List.mem_of_getElem? (i := 424) (by decide +kernel))
  | 14, _, _ => exact Or.inr (List.mem_of_getElem? (i := 419) (by decide +kernel))
  | 15, _, _ => exact Or.inr (List.mem_of_getElem? (i := 420) (by decide +kernel))
  | 16, _, _ => exact Or.inr (List.mem_of_getElem? (i := 414) (by decide +kernel))
  | 17, _, _ => exact Or.inr (List.mem_of_getElem? (i := 416) (by decide +kernel))
  | j + 18, h, _ => exact absurd h (by omega)
theorem fl_ne_8 : ∀ j, j < 18 → 8 ≠ j → Cond.not (Cond.eq (tmC 8) (tmC j)) ∈ FL ∨ Cond.not (Cond.eq (tmC j) (tmC 8)) ∈ FL := by
  intro j hj hne
  match j, hj, hne with
  | 0, _, _ => exact Or.inl (List.mem_of_getElem? (i := 541) (by decide +kernel))
  | 1, _, _ => exact Or.inr (List.mem_of_getElem? (i := 440) (by decide +kernel))
  | 2, _, _ => exact Or.inr (List.mem_of_getElem? (i := 441) (by decide +kernel))
  | 3, _, _ => exact Or.inr (List.mem_of_getElem? (i := 442) (by decide +kernel))
  | 4, _, _ => exact Or.inl (List.mem_of_getElem? (i := 518) (by decide +kernel))
  | 5, _, _ => exact Or.inl (List.mem_of_getElem? (i := 494) (by decide +kernel))
  | 6, _, _ => exact Or.inr (List.mem_of_getElem? (i := 446) (by decide +kernel))
  | 7, _, _ => exact Or.inr (List.mem_of_getElem? (i := 447) (by decide +kernel))
  | 8, _, h => exact absurd rfl h
  | 9, _, _ => exact Or.inl (List.mem_of_getElem? (i := 470) (by decide +kernel))
  | 10, _, _ => exact Or.inr (List.mem_of_getElem? (i := 437) (by decide +kernel))
  | 11, _, _ => exact Or.inr (List.mem_of_getElem? (i := 445) (by decide +kernel))
  | 12, _, _ => exact Or.inr (List.mem_of_getElem? (i := 444) (by decide +kernel))
  | 13, _, _ => exact Or.inr (List.mem_of_getElem? (i := 443) (by decide +kernel))
  | 14, _, _ => exact Or.inr (List.mem_of_getElem? (i := 438) (by decide +kernel))
  | 15, _, _ => exact Or.inr (List.mem_of_getElem? (i := 439) (by decide +kernel))
  | 16, _, _ => exact Or.inr (List.mem_of_getElem? (i := 433) (by decide +kernel))
  | 17, _, _ => exact Or.inr (List.mem_of_getElem? (i := 435) (by decide +kernel))
  | j + 18, h, _ => exact absurd h (by omega)
theorem fl_ne_9 : ∀ j, j < 18 → 9 ≠ j → Cond.not (Cond.eq (tmC 9) (tmC j)) ∈ FL ∨ Cond.not (Cond.eq (tmC j) (tmC 9)) ∈ FL := by
  intro j hj hne
  match j, hj, hne with
  | 0, _, _ => exact Or.inl (List.mem_of_getElem? (i := 542) (by decide +kernel))
  | 1, _, _ => exact Or.inr (List.mem_of_getElem? (i := 462) (by decide +kernel))
  | 2, _, _ => exact Or.inr (List.mem_of_getElem? (i := 463) (by decide +kernel))
  | 3, _, _ => exact Or.inr (List.mem_of_getElem? (i := 464) (by decide +kernel))
  | 4, _, _ => exact Or.inl (List.mem_of_getElem? (i := 519) (by decide +kernel))
  | 5, _, _ => exact Or.inl (List.mem_of_getElem? (i := 495) (by decide +kernel))
  | 6, _, _ => exact Or.inr (List.mem_of_getElem? (i := 468) (by decide +kernel))
  | 7, _, _ => exact Or.inr (List.mem_of_getElem? (i := 469) (by decide +kernel))
  | 8, _, _ => exact Or.inr (List.mem_of_getElem? (i := 470) (by decide +kernel))
  | 9, _, h => exact absurd rfl h
  | 10, _, _ => exact Or.inr (List.mem_of_getElem? (i := 459) (by decide +kernel))
  | 11, _, _ => exact Or.inr (List.mem_of_getElem? (i := 467) (by decide +kernel))
  | 12, _, _ => exact Or.inr (List.mem_of_getElem? (i := 466) (by decide +kernel))
  | 13, _, _ => exact Or.inr (List.mem_of_getElem? (i := 465) (by decide +kernel))
  | 14, _, _ => exact Or.inr (List.mem_of_getElem? (i := 460) (by decide +kernel))
  | 15, _, _ => exact Or.inr (List.mem_of_getElem? (i := 461) (by decide +kernel))
  | 16, _, _ => exact Or.inr (List.mem_of_getElem? (i := 455) (by decide +kernel))
  | 17, _, _ => exact Or.inr (List.mem_of_getElem? (i := 457) (by decide +kernel))
  | j + 18, h, _ => exact absurd h (by omega)
theorem fl_ne_10 : ∀ j, j < 18 → 10 ≠ j → Cond.not (Cond.eq (tmC 10) (tmC j)) ∈ FL ∨ Cond.not (Cond.eq (tmC j) (tmC 10)) ∈ FL := by
  intro j hj hne
  match j, hj, hne with
  | 0, _, _ => exact Or.inl (List.mem_of_getElem? (i := 530) (by decide +kernel))
  | 1, _, _ => exact Or.inl (List.mem_of_getElem? (i := 306) (by decide +kernel))
  | 2, _, _ => exact Or.inl (List.mem_of_getElem? (i := 318) (by decide +kernel))
  | 3, _, _ => exact Or.inl (List.mem_of_getElem? (i := 331) (by decide +kernel))
  | 4, _, _ => exact Or.inl (List.mem_of_getElem? (i := 507) (by decide +kernel))
  | 5, _, _ => exact Or.inl (List.mem_of_getElem? (i := 483) (by decide +kernel))
  | 6, _, _ => exact Or.inl (List.mem_of_getElem? (i := 400) (by decide +kernel))
  | 7, _, _ => exact Or.inl (List.mem_of_getElem? (i := 418) (by decide +kernel))
  | 8, _, _ => exact Or.inl (List.mem_of_getElem? (i := 437) (by decide +kernel))
  | 9, _, _ => exact Or.inl (List.mem_of_getElem? (i := 459) (by decide +kernel))
  | 10, _, h => exact absurd rfl h
  | 11, _, _ => exact Or.inl (List.mem_of_getElem? (i := 380) (by decide +kernel))
  | 12, _, _ => exact Or.inl (List.mem_of_getElem? (i := 362) (by decide +kernel))
  | 13, _, _ => exact Or.inl (List.mem_of_getElem? (i := 346) (by decide +kernel))
  | 14, _, _ => exact Or.inl (List.mem_of_getElem? (i := 275) (by decide +kernel))
  | 15, _, _ => exact Or.inl (List.mem_of_getElem? (i := 295) (by decide +kernel))
  | 16, _, _ => exact Or.inr (List.mem_of_getElem? (i := 204) (by decide +kernel))
  | 17, _, _ => exact Or.inr (List.mem_of_getElem? (i := 206) (by decide +kernel))
  | j + 18, h, _ => exact absurd h (by omega)
theorem fl_ne_11 : ∀ j, j < 18 → 11 ≠ j → Cond.not (Cond.eq (tmC 11) (tmC j)) ∈ FL ∨ Cond.not (Cond.eq (tmC j) (tmC 11)) ∈ FL := by
  intro j hj hne
  match j, hj, hne with
  | 0, _, _ => exact Or.inl (List.mem_of_getElem? (i := 538) (by decide +kernel))
  | 1, _, _ => exact Or.inr (List.mem_of_getElem? (i := 383) (by decide +kernel))
  | 2, _, _ => exact Or.inr (List.mem_of_getElem? (i := 384) (by decide +kernel))
  | 3, _, _ => exact Or.inr (List.mem_of_getElem? (i := 385) (by decide +kernel))
  | 4, _, _ => exact Or.inl (List.mem_of_getElem? (i := 515) (by decide +kernel))
  | 5, _, _ => exact Or.inl (List.mem_of_getElem? (i := 491) (by decide +kernel))
  | 6, _, _ => exact Or.inl (List.mem_of_getElem? (i := 408) (by decide +kernel))
  | 7, _, _ => exact Or.inl (List.mem_of_getElem? (i := 426) (by decide +kernel))
  | 8, _, _ => exact Or.inl (List.mem_of_getElem? (i := 445) (by decide +kernel))
  | 9, _, _ => exact Or.inl (List.mem_of_getElem? (i := 467) (by decide +kernel))
  | 10, _, _ => exact Or.inr (List.mem_of_getElem? (i := 380) (by decide +kernel))
  | 11, _, h => exact absurd rfl h
  | 12, _, _ => exact Or.inr (List.mem_of_getElem? (i := 387) (by decide +kernel))
  | 13, _, _ => exact Or.inr (List.mem_of_getElem? (i := 386) (by decide +kernel))
  | 14, _, _ => exact Or.inr (List.mem_of_getElem? (i := 381) (by decide +kernel))
  | 15, _, _ => exact Or.inr (List.mem_of_getElem? (i := 382) (by decide +kernel))
  | 16, _, _ => exact Or.inr (List.mem_of_getElem? (i := 376) (by decide +kernel))
  | 17, _, _ => exact Or.inr (List.mem_of_getElem? (i := 378) (by decide +kernel))
  | j + 18, h, _ => exact absurd h (by omega)
theorem fl_ne_12 : ∀ j, j < 18 → 12 ≠ j → Cond.not (Cond.eq (tmC 12) (tmC j)) ∈ FL ∨ Cond.not (Cond.eq (tmC j) (tmC 12)) ∈ FL := by
  intro j hj hne
  match j, hj, hne with
  | 0, _, _ => exact Or.inl (List.mem_of_getElem? (i := 537) (by decide +kernel))
  | 1, _, _ => exact Or.inr (List.mem_of_getElem? (i := 365) (by decide +kernel))
  | 2, _, _ => exact Or.inr (List.mem_of_getElem? (i := 366) (by decide +kernel))
  | 3, _, _ => exact Or.inr (List.mem_of_getElem? (i := 367) (by decide +kernel))
  | 4, _, _ => exact Or.inl (List.mem_of_getElem? (i := 514) (by decide +kernel))
  | 5, _, _ => exact Or.inl (List.mem_of_getElem? (i := 490) (by decide +kernel))
  | 6, _, _ => exact Or.inl (List.mem_of_getElem? (i := 407) (by decide +kernel))
  | 7, _, _ => exact Or.inl (List.mem_of_getElem? (i := 425) (by decide +kernel))
  | 8, _, _ => exact Or.inl (List.mem_of_getElem? (i := 444) (by decide +kernel))
  | 9, _, _ => exact Or.inl (List.mem_of_getElem? (i := 466) (by decide +kernel))
  | 10, _, _ => exact Or.inr (List.mem_of_getElem? (i := 362) (by decide +kernel))
  | 11, _, _ => exact Or.inl (List.mem_of_getElem? (i := 387) (by decide +kernel))
  | 12, _, h => exact absurd rfl h
  | 13, _, _ => exact Or.inr (List.mem_of_getElem? (i := 368) (by decide +kernel))
  | 14, _, _ => exact Or.inr (List.mem_of_getElem? (i := 363) (by decide +kernel))
  | 15, _, _ => exact Or.inr (List.mem_of_getElem? (i := 364) (by decide +kernel))
  | 16, _, _ => exact Or.inr (List.mem_of_getElem? (i := 358) (by decide +kernel))
  | 17, _, _ => exact Or.inr (List.mem_of_getElem? (i := 360) (by decide +kernel))
  | j + 18, h, _ => exact absurd h (by omega)
theorem fl_ne_13 : ∀ j, j < 18 → 13 ≠ j → Cond.not (Cond.eq (tmC 13) (tmC j)) ∈ FL ∨ Cond.not (Cond.eq (tmC j) (tmC 13)) ∈ FL := by
  intro j hj hne
  match j, hj, hne with
  | 0, _, _ => exact Or.inl (List.mem_of_getElem? (i := 536) (by decide +kernel))
  | 1, _, _ => exact Or.inr (List.mem_of_getElem? (i := 349) (by decide +kernel))
  | 2, _, _ => exact Or.inr (List.mem_of_getElem? (i := 350) (by decide +kernel))
  | 3, _, _ => exact Or.inr (List.mem_of_getElem? (i := 351) (by decide +kernel))
  | 4, _, _ => exact Or.inl (List.mem_of_getElem? (i := 513) (by decide +kernel))
  | 5, _, _ => exact Or.inl (List.mem_of_getElem? (i := 489) (by decide +kernel))
  | 6, _, _ => exact Or.inl (List.mem_of_getElem? (i := 406) (by decide +kernel))
  | 7, _, _ => exact Or.inl (List.mem_of_getElem? (i := 424) (by decide +kernel))
  | 8, _, _ => exact Or.inl (List.mem_of_getElem? (i := 443) (by decide +kernel))
  | 9, _, _ => exact Or.inl (List.mem_of_getElem? (i := 465) (by decide +kernel))
  | 10, _, _ => exact Or.inr (List.mem_of_getElem? (i := 346) (by decide +kernel))
  | 11, _, _ => exact Or.inl (List.mem_of_getElem? (i := 386) (by decide +kernel))
  | 12, _, _ => exact Or.inl (List.mem_of_getElem? (i := 368) (by decide +kernel))
  | 13, _, h => exact absurd rfl h
  | 14, _, _ => exact Or.inr (List.mem_of_getElem? (i := 347) (by decide +kernel))
  | 15, _, _ => exact Or.inr (List.mem_of_getElem? (i := 348) (by decide +kernel))
  | 16, _, _ => exact Or.inr (List.mem_of_getElem? (i := 342) (by decide +kernel))
  | 17, _, _ => exact Or.inr (List.mem_of_getElem? (i := 344) (by decide +kernel))
  | j + 18, h, _ => exact absurd h (by omega)
theorem fl_ne_14 : ∀ j, j < 18 → 14 ≠ j → Cond.not (Cond.eq (tmC 14) (tmC j)) ∈ FL ∨ Cond.not (Cond.eq (tmC j) (tmC 14)) ∈ FL := by
  intro j hj hne
  match j, hj, hne with
  | 0, _, _ => exact Or.inl (List.mem_of_getElem? (i := 531) (by decide +kernel))
  | 1, _, _ => exact Or.inl (List.mem_of_getElem? (i := 307) (by decide +kernel))
  | 2, _, _ => exact Or.inl (List.mem_of_getElem? (i := 319) (by decide +kernel))
  | 3, _, _ => exact Or.inl (List.mem_of_getElem? (i := 332) (by decide +kernel))
  | 4, _, _ => exact Or.inl (List.mem_of_getElem? (i := 508) (by decide +kernel))
  | 5, _, _ => exact Or.inl (List.mem_of_getElem? (i := 484) (by decide +kernel))
  | 6, _, _ => exact Or.inl (List.mem_of_getElem? (i := 401) (by decide +kernel))
  | 7, _, _ => exact Or.inl (List.mem_of_getElem? (i := 419) (by decide +kernel))
  | 8, _, _ => exact Or.inl (List.mem_of_getElem? (i := 438) (by decide +kernel))
  | 9, _, _ => exact Or.inl (List.mem_of_getElem? (i := 460) (by decide +kernel))
  | 10, _, _ => exact Or.inr (List.mem_of_getElem? (i := 275) (by decide +kernel))
  | 11, _, _ => exact Or.inl (List.mem_of_getElem? (i := 381) (by decide +kernel))
  | 12, _, _ => exact Or.inl (List.mem_of_getElem? (i := 363) (by decide +kernel))
  | 13, _, _ => exact Or.inl (List.mem_of_getElem? (i := 347) (by decide +kernel))
  | 14, _, h => exact absurd rfl h
  | 15, _, _ => exact Or.inl (List.mem_of_getElem? (i := 296) (by decide +kernel))
  | 16, _, _ => exact Or.inr (List.mem_of_getElem? (i := 271) (by decide +kernel))
  | 17, _, _ => exact Or.inr (List.mem_of_getElem? (i := 273) (by decide +kernel))
  | j + 18, h, _ => exact absurd h (by omega)
theorem fl_ne_15 : ∀ j, j < 18 → 15 ≠ j → Cond.not (Cond.eq (tmC 15) (tmC j)) ∈ FL ∨ Cond.not (Cond.eq (tmC j) (tmC 15)) ∈ FL := by
  intro j hj hne
  match j, hj, hne with
  | 0, _, _ => exact Or.inl (List.mem_of_getElem? (i := 532) (by decide +kernel))
  | 1, _, _ => exact Or.inl (List.mem_of_getElem? (i := 308) (by decide +kernel))
  | 2, _, _ => exact Or.inl (List.mem_of_getElem? (i := 320) (by decide +kernel))
  | 3, _, _ => exact Or.inl (List.mem_of_getElem? (i := 333) (by decide +kernel))
  | 4, _, _ => exact Or.inl (List.mem_of_getElem? (i := 509) (by decide +kernel))
  | 5, _, _ => exact Or.inl (List.mem_of_getElem? (i := 485) (by decide +kernel))
  | 6, _, _ => exact Or.inl (List.mem_of_getElem? (i := 402) (by decide +kernel))
  | 7, _, _ => exact Or.inl (List.mem_of_getElem? (i := 420) (by decide +kernel))
  | 8, _, _ => exact Or.inl (List.mem_of_getElem? (i := 439) (by decide +kernel))
  | 9, _, _ => exact Or.inl (List.mem_of_getElem? (i := 461) (by decide +kernel))
  | 10, _, _ => exact Or.inr (List.mem_of_getElem? (i := 295) (by decide +kernel))
  | 11, _, _ => exact Or.inl (List.mem_of_getElem? (i := 382) (by decide +kernel))
  | 12, _, _ => exact Or.inl (List.mem_of_getElem? (i := 364) (by decide +kernel))
  | 13, _, _ => exact Or.inl (List.mem_of_getElem? (i := 348) (by decide +kernel))
  | 14, _, _ => exact Or.inr (List.mem_of_getElem? (i := 296) (by decide +kernel))
  | 15, _, h => exact absurd rfl h
  | 16, _, _ => exact Or.inr (List.mem_of_getElem? (i := 291) (by decide +kernel))
  | 17, _, _ => exact Or.inr (List.mem_of_getElem? (i := 293) (by decide +kernel))
  | j + 18, h, _ => exact absurd h (by omega)
theorem fl_ne_16 : ∀ j, j < 18 → 16 ≠ j → Cond.not (Cond.eq (tmC 16) (tmC j)) ∈ FL ∨ Cond.not (Cond.eq (tmC j) (tmC 16)) ∈ FL := by
  intro j hj hne
  match j, hj, hne with
  | 0, _, _ => exact Or.inl (List.mem_of_getElem? (i := 526) (by decide +kernel))
  | 1, _, _ => exact Or.inl (List.mem_of_getElem? (i := 302) (by decide +kernel))
  | 2, _, _ => exact Or.inl (List.mem_of_getElem? (i := 314) (by decide +kernel))
  | 3, _, _ => exact Or.inl (List.mem_of_getElem? (i := 327) (by decide +kernel))
  | 4, _, _ => exact Or.inl (List.mem_of_getElem? (i := 503) (by decide +kernel))
  | 5, _, _ => exact Or.inl (List.mem_of_getElem? (i := 479) (by decide +kernel))
  | 6, _, _ => exact Or.inl (List.mem_of_getElem? (i := 396) (by decide +kernel))
  | 7, _, _ => exact Or.inl (List.mem_of_getElem? (i := 414) (by decide +kernel))
  | 8, _, _ => exact Or.inl (List.mem_of_getElem? (i := 433) (by decide +kernel))
  | 9, _, _ => exact Or.inl (List.mem_of_getElem? (i := 455) (by decide +kernel))
  | 10, _, _ => exact Or.inl (List.mem_of_getElem? (i := 204) (by decide +kernel))
  | 11, _, _ => exact Or.inl (List.mem_of_getElem? (i := 376) (by decide +kernel))
  | 12, _, _ => exact Or.inl (List.mem_of_getElem? (i := 358) (by decide +kernel))
  | 13, _, _ => exact Or.inl (List.mem_of_getElem? (i := 342) (by decide +kernel))
  | 14, _, _ => exact Or.inl (List.mem_of_getElem? (i := 271) (by decide +kernel))
  | 15, _, _ => exact Or.inl (List.mem_of_getElem? (i := 291) (by decide +kernel))
  | 16, _, h => exact absurd rfl h
  | 17, _, _ => exact Or.inl (List.mem_of_getElem? (i := 169) (by decide +kernel))
  | j + 18, h, _ => exact absurd h (by omega)
theorem fl_ne_17 : ∀ j, j < 18 → 17 ≠ j → Cond.not (Cond.eq (tmC 17) (tmC j)) ∈ FL ∨ Cond.not (Cond.eq (tmC j) (tmC 17)) ∈ FL := by
  intro j hj hne
  match j, hj, hne with
  | 0, _, _ => exact Or.inl (List.mem_of_getElem? (i := 528) (by decide +kernel))
  | 1, _, _ => exact Or.inl (List.mem_of_getElem? (i := 304) (by decide +kernel))
  | 2, _, _ => exact Or.inl (List.mem_of_getElem? (i := 316) (by decide +kernel))
  | 3, _, _ => exact Or.inl (List.mem_of_getElem? (i := 329) (by decide +kernel))
  | 4, _, _ => exact Or.inl (List.mem_of_getElem? (i := 505) (by decide +kernel))
  | 5, _, _ => exact Or.inl (List.mem_of_getElem? (i := 481) (by decide +kernel))
  | 6, _, _ => exact Or.inl (List.mem_of_getElem? (i := 398) (by decide +kernel))
  | 7, _, _ => exact Or.inl (List.mem_of_getElem? (i := 416) (by decide +kernel))
  | 8, _, _ => exact Or.inl (List.mem_of_getElem? (i := 435) (by decide +kernel))
  | 9, _, _ => exact Or.inl (List.mem_of_getElem? (i := 457) (by decide +kernel))
  | 10, _, _ => exact Or.inl (List.mem_of_getElem? (i := 206) (by decide +kernel))
  | 11, _, _ => exact Or.inl (List.mem_of_getElem? (i := 378) (by decide +kernel))
  | 12, _, _ => exact Or.inl (List.mem_of_getElem? (i := 360) (by decide +kernel))
  | 13, _, _ => exact Or.inl (List.mem_of_getElem? (i := 344) (by decide +kernel))
  | 14, _, _ => exact Or.inl (List.mem_of_getElem? (i := 273) (by decide +kernel))
  | 15, _, _ => exact Or.inl (List.mem_of_getElem? (i := 293) (by decide +kernel))
  | 16, _, _ => exact Or.inr (List.mem_of_getElem? (i := 169) (by decide +kernel))
  | 17, _, h => exact absurd rfl h
  | j + 18, h, _ => exact absurd h (by omega)
theorem fl_ne : ∀ i, i < 18 → ∀ j, j < 18 → i ≠ j → Cond.not (Cond.eq (tmC i) (tmC j)) ∈ FL ∨ Cond.not (Cond.eq (tmC j) (tmC i)) ∈ FL := by
  intro i hi
  match i, hi with
  | 0, _ => exact fl_ne_0
  | 1, _ => exact fl_ne_1
  | 2, _ => exact fl_ne_2
  | 3, _ => exact fl_ne_3
  | 4, _ => exact fl_ne_4
  | 5, _ => exact fl_ne_5
  | 6, _ => exact fl_ne_6
  | 7, _ => exact fl_ne_7
  | 8, _ => exact fl_ne_8
  | 9, _ => exact fl_ne_9
  | 10, _ => exact fl_ne_10
  | 11, _ => exact fl_ne_11
  | 12, _ => exact fl_ne_12
  | 13, _ => exact fl_ne_13
  | 14, _ => exact fl_ne_14
  | 15, _ => exact fl_ne_15
  | 16, _ => exact fl_ne_16
  | 17, _ => exact fl_ne_17
  | i + 18, h => exact absurd h (by omega)
