def chC (n k : Nat) : Int64 := (List.range k).foldl (fun v j => v * ((nI n - nI k) + nI (1 + j)).toInt64 / (nI (1 + j)).toInt64) 1
def chR (n k : Nat) : Int64 := (List.range k).foldl (fun v j => v * (nI n - nI j).toInt64 / (nI (j + 1)).toInt64) 1
theorem ch_eq : ∀ n, n ≤ 28 → ∀ k, k ≤ n → (chC n k).toInt32 = (chR n k).toInt32 := by decide +kernel
theorem nz28 : ∀ j, j ≤ 28 → (nI (j + 1)).toInt64 ≠ 0 := by decide
def chS (n k : Nat) : Int32 := if k ≤ n then (chR n k).toInt32 else 0
theorem cChoose {n k : Nat} (hn : n ≤ 28) (hk : k ≤ 28) : mX8_choose (nI n) (nI k) = some (chS n k) := by
  unfold mX8_choose chS
  rw [if_neg (show ¬ nI k < 0 from nI_pos (by omega))]
  by_cases c : k ≤ n
  · rw [if_pos (nI_le c (by omega)), if_pos c]
    simp only [jp_q]
    rw [← ch_eq n hn k c]
    refine loopF0 (L := fun fu a x => mX8_choose_L16 (nI k) (nI n) (fun y => some y.toInt32) fu a x) (w := fun y => some y.toInt32) (fun v j => v * ((nI n - nI k) + nI (1 + j)).toInt64 / (nI (1 + j)).toInt64) (n := k) (o := 1) (FU_lt (by omega)) ?_ ?_ (a := 1)
    · intro fu a j hj
      show mX8_choose_L16 (nI k) (nI n) (fun y => some y.toInt32) (fu + 1) a (nI (1 + j)) = _
      rw [mX8_choose_L16.eq_2, if_neg (nI_nlt (by omega) (by omega)), nzL_ok (by have := nz28 j (by omega); rwa [Nat.add_comm] at this)]
      simp only [ob_q, bd_q, nI_1]
    · intro fu a
      show mX8_choose_L16 (nI k) (nI n) (fun y => some y.toInt32) (fu + 1) a (nI (1 + k)) = _
      rw [mX8_choose_L16.eq_2, if_pos (nI_lt (by omega) (by omega))]
  · rw [if_neg (show ¬ nI k ≤ nI n from nI_ge (by omega) (by omega)), if_neg c]
theorem rChoose {n k : Nat} (hn : n ≤ 28) (hk : k ≤ 28) : mX9_choose (nI n) (nI k) = some (chS n k) := by
  unfold mX9_choose chS
  rw [if_neg (show ¬ nI k < 0 from nI_pos (by omega))]
  by_cases c : k ≤ n
  · rw [if_pos (nI_le c (by omega)), if_pos c]
    simp only [jp_q]
    refine foldP (L := fun fu a x => mX9_choose_L16 (nI k) (nI n) (fun y => some y.toInt32) fu a x) (w := fun y => some y.toInt32) (n := k) (by omega) (fun v j => v * (nI n - nI j).toInt64 / (nI (j + 1)).toInt64) ?_ ?_ 1
    · intro fu a j hj
      show mX9_choose_L16 (nI k) (nI n) (fun y => some y.toInt32) (fu + 1) a (nI j) = _
      rw [mX9_choose_L16.eq_2, if_neg (nI_ge hj (by omega)), nI_1, nzL_ok (nz28 j (by omega))]
      simp only [ob_q, bd_q]
    · intro fu a
      show mX9_choose_L16 (nI k) (nI n) (fun y => some y.toInt32) (fu + 1) a (nI k) = _
      rw [mX9_choose_L16.eq_2, if_pos (nI_le (Nat.le_refl _) (by omega))]
  · rw [if_neg (show ¬ nI k ≤ nI n from nI_ge (by omega) (by omega)), if_neg c]
theorem nI_subN {a b : Nat} (h : b ≤ a) (ha : a < 2 ^ 30) : nI a - nI b = nI (a - b) := by
  apply Int32.toInt_inj.mp
  rw [pk_sub_toInt ha (by omega), nI_toInt (by omega)]
  omega
/-- the ways from k on -/
def wyS (A B n : Nat) (y d : Nat) : Int32 := (List.range d).foldl (fun b j => b + chS A (y + j) * chS B (n - (y + j))) 0
theorem wy_more {A B n y : Nat} (hA : A ≤ n) (hy : y ≤ A + 1) : wyS A B n y (n + 1 - y) = wyS A B n y (A + 1 - y) := by
  have : ∀ d, wyS A B n y (A + 1 - y + d) = wyS A B n y (A + 1 - y) := by
    intro d
    induction d with
    | zero => rfl
    | succ d ih =>
      unfold wyS at ih ⊢
      rw [show A + 1 - y + (d + 1) = (A + 1 - y + d) + 1 from rfl, rsucc, ih]
      unfold chS
      rw [if_neg (by omega), Int32.zero_mul, Int32.add_zero]
  have h := this (n - A)
  rw [show A + 1 - y + (n - A) = n + 1 - y by omega] at h
  exact h
theorem cWays {n y m g : Nat} (hn : n ≤ 14) (hm : m ≤ 14) (hy : y ≤ n) (hg : g ≤ m) : mX8_waysOf (nI n) (nI y) (nI m) (nI g) = some (wyS (y + g) (n + m - (y + g)) n y (n + 1 - y)) := by
  unfold mX8_waysOf
  simp only [bd_q, jp_q, nI_add]
  rw [nI_subN (by omega) (by omega)]
  have hx : ∀ hi, hi ≤ n → hi ≤ y + g → (hi = n ∨ hi = y + g) → y ≤ hi → mX8_waysOf_L19 (nI (y + g)) (nI n) (nI (n + m - (y + g))) (fun x => some x) FU 0 (nI y) = some (wyS (y + g) (n + m - (y + g)) n y (hi + 1 - y)) := by
    intro hi h1 h2 h3 h4
    refine loopF0 (L := fun fu a x => mX8_waysOf_L19 (nI (y + g)) (nI n) (nI (n + m - (y + g))) (fun x => some x) fu a x) (w := fun x => some x) (fun b j => b + chS (y + g) (y + j) * chS (n + m - (y + g)) (n - (y + j))) (n := hi + 1 - y) (o := y) (FU_lt (by omega)) ?_ ?_ (a := 0)
    · intro fu a j hj
      show mX8_waysOf_L19 (nI (y + g)) (nI n) (nI (n + m - (y + g))) (fun x => some x) (fu + 1) a (nI (y + j)) = _
      rw [mX8_waysOf_L19.eq_2, if_neg (nI_nlt (by omega) (by omega)), if_neg (nI_nlt (by omega) (by omega)), cChoose (by omega) (by omega), nI_subN (by omega) (by omega), cChoose (by omega) (by omega)]
      simp only [ob_q, bd_q, nI_1]
    · intro fu a
      show mX8_waysOf_L19 (nI (y + g)) (nI n) (nI (n + m - (y + g))) (fun x => some x) (fu + 1) a (nI (y + (hi + 1 - y))) = _
      rw [mX8_waysOf_L19.eq_2, show y + (hi + 1 - y) = hi + 1 by omega]
      by_cases c : nI (y + g) < nI (hi + 1)
      · rw [if_pos c]
      · rw [if_neg c]
        rcases h3 with z | z
        · rw [if_pos (nI_lt (by omega) (by omega))]
        · exact absurd (nI_lt (by omega) (by omega)) c
  by_cases c : n ≤ y + g
  · exact hx n (Nat.le_refl _) c (Or.inl rfl) hy
  · rw [hx (y + g) (by omega) (Nat.le_refl _) (Or.inr rfl) (by omega), wy_more (by omega) (by omega)]
theorem rWays {n y m g : Nat} (hn : n ≤ 14) (hm : m ≤ 14) (hy : y ≤ n) (hg : g ≤ m) {w : Int32 → Option (Int32 × HS)} : mX9_apart_L182 (nI n) (nI y) (nI g) (nI m) w FU 0 (nI y) = w (wyS (y + g) (n + m - (y + g)) n y (n + 1 - y)) := by
  refine loopF0 (L := fun fu a x => mX9_apart_L182 (nI n) (nI y) (nI g) (nI m) w fu a x) (w := w) (fun b j => b + chS (y + g) (y + j) * chS (n + m - (y + g)) (n - (y + j))) (n := n + 1 - y) (o := y) (FU_lt (by omega)) ?_ ?_ (a := 0)
  · intro fu a j hj
    show mX9_apart_L182 (nI n) (nI y) (nI g) (nI m) w (fu + 1) a (nI (y + j)) = _
    rw [mX9_apart_L182.eq_2, if_neg (nI_nlt (by omega) (by omega)), nI_add, rChoose (by omega) (by omega), nI_add, nI_subN (by omega) (by omega), nI_subN (by omega) (by omega), nI_subN (by omega) (by omega), rChoose (by omega) (by omega)]
    simp only [ob_q, bd_q, nI_1]
    rw [show n + m - y - g = n + m - (y + g) by omega]
  · intro fu a
    show mX9_apart_L182 (nI n) (nI y) (nI g) (nI m) w (fu + 1) a (nI (y + (n + 1 - y))) = _
    rw [mX9_apart_L182.eq_2, if_pos (nI_lt (by omega) (by omega))]
-- guessed
set_option maxHeartbeats 2000000 in
theorem s_guessed (x1 x2 x3 x4 : Int32) : Step [2, 3, 1] (fun u => mX8_guessed u x1 x2 x3 x4) (fun u => mX9_guessed u x1 x2 x3 x4) := by
  intro u hI
  have ⟨p, h, hv⟩ := hI
  have hw := w0c h
  have n6 := h.1.1.1
  have t6 := h.1.1.2.1
  have q4 := h.1.1.2.2.1
  have n14 := h.2.2.2.2.2.1.2.1.1.1
  cases b1 : inB x1 (pNs p) with
  | false =>
    refine Step.bad hI (k := 2) (v := 0) (b := 0) (c := 1) ?_ ?_ (by decide)
    · unfold mX8_guessed; simp only [bd_q, jp_q, ob_q, on_q, if_true, if_false, Bool.false_eq_true, Bool.true_eq_false, Bool.not_true, Bool.not_false, pr99, pr9, pr8, cReqS h, cReqT h, cReqQ h, cReqL h, cReqB, cReq0, cReq1, cTenthB, cAskB, cFitB, xqz, xq1, xq2, xq3, pl2, pl3, pl4, pl5, pl14, pl40, pl50, pl100, pl999, pe3, pe11, pe30, pe40, pe300, bI_if, bI_0, b1]
    · show mX9_guessed u x1 x2 x3 x4 = _
      unfold mX9_guessed; simp only [bd_q, jp_q, ob_q, on_q, if_true, if_false, Bool.false_eq_true, Bool.true_eq_false, Bool.not_true, Bool.not_false, ir99, ir9, ir8, w0e, rIsS hw, rIsT hw, rIsQ hw, rIsL hw, rBad w00 _ (show (1 : Int32) ≠ 0 by decide), rBad w00 _ (show (2 : Int32) ≠ 0 by decide), rBad w00 _ (show (3 : Int32) ≠ 0 by decide), rBad1 w00 (show (1 : Int32) ≠ 0 by decide), rBad1 w00 (show (2 : Int32) ≠ 0 by decide), rBad1 w00 (show (3 : Int32) ≠ 0 by decide), rBad0 w00 (show (1 : Int32) ≠ 0 by decide), rBad0 w00 (show (2 : Int32) ≠ 0 by decide), rBad0 w00 (show (3 : Int32) ≠ 0 by decide), e10, in2, in3, in4, in5, in10, in14, in29, in39, in40, in50, in100, in299, in999, bI_nn, bI_0, b1]
  | true =>
  obtain ⟨s, hs, rfl⟩ := inB_t (by omega) b1
  cases b2 : inB x2 (pNs p) with
  | false =>
    refine Step.bad hI (k := 2) (v := 0) (b := 0) (c := 1) ?_ ?_ (by decide)
    · unfold mX8_guessed; simp only [bd_q, jp_q, ob_q, on_q, if_true, if_false, Bool.false_eq_true, Bool.true_eq_false, Bool.not_true, Bool.not_false, pr99, pr9, pr8, cReqS h, cReqT h, cReqQ h, cReqL h, cReqB, cReq0, cReq1, cTenthB, cAskB, cFitB, xqz, xq1, xq2, xq3, pl2, pl3, pl4, pl5, pl14, pl40, pl50, pl100, pl999, pe3, pe11, pe30, pe40, pe300, bI_if, bI_0, b1, b2]
    · show mX9_guessed u (nI s) x2 x3 x4 = _
      unfold mX9_guessed; simp only [bd_q, jp_q, ob_q, on_q, if_true, if_false, Bool.false_eq_true, Bool.true_eq_false, Bool.not_true, Bool.not_false, ir99, ir9, ir8, w0e, rIsS hw, rIsT hw, rIsQ hw, rIsL hw, rBad w00 _ (show (1 : Int32) ≠ 0 by decide), rBad w00 _ (show (2 : Int32) ≠ 0 by decide), rBad w00 _ (show (3 : Int32) ≠ 0 by decide), rBad1 w00 (show (1 : Int32) ≠ 0 by decide), rBad1 w00 (show (2 : Int32) ≠ 0 by decide), rBad1 w00 (show (3 : Int32) ≠ 0 by decide), rBad0 w00 (show (1 : Int32) ≠ 0 by decide), rBad0 w00 (show (2 : Int32) ≠ 0 by decide), rBad0 w00 (show (3 : Int32) ≠ 0 by decide), e10, in2, in3, in4, in5, in10, in14, in29, in39, in40, in50, in100, in299, in999, bI_nn, bI_0, b1, b2]
  | true =>
  obtain ⟨o, ho, rfl⟩ := inB_t (by omega) b2
  cases b3 : inB x3 (pNt p) with
  | false =>
    refine Step.bad hI (k := 3) (v := 0) (b := 0) (c := 2) ?_ ?_ (by decide)
    · unfold mX8_guessed; simp only [bd_q, jp_q, ob_q, on_q, if_true, if_false, Bool.false_eq_true, Bool.true_eq_false, Bool.not_true, Bool.not_false, pr99, pr9, pr8, cReqS h, cReqT h, cReqQ h, cReqL h, cReqB, cReq0, cReq1, cTenthB, cAskB, cFitB, xqz, xq1, xq2, xq3, pl2, pl3, pl4, pl5, pl14, pl40, pl50, pl100, pl999, pe3, pe11, pe30, pe40, pe300, bI_if, bI_0, b1, b2, b3]
    · show mX9_guessed u (nI s) (nI o) x3 x4 = _
      unfold mX9_guessed; simp only [bd_q, jp_q, ob_q, on_q, if_true, if_false, Bool.false_eq_true, Bool.true_eq_false, Bool.not_true, Bool.not_false, ir99, ir9, ir8, w0e, rIsS hw, rIsT hw, rIsQ hw, rIsL hw, rBad w00 _ (show (1 : Int32) ≠ 0 by decide), rBad w00 _ (show (2 : Int32) ≠ 0 by decide), rBad w00 _ (show (3 : Int32) ≠ 0 by decide), rBad1 w00 (show (1 : Int32) ≠ 0 by decide), rBad1 w00 (show (2 : Int32) ≠ 0 by decide), rBad1 w00 (show (3 : Int32) ≠ 0 by decide), rBad0 w00 (show (1 : Int32) ≠ 0 by decide), rBad0 w00 (show (2 : Int32) ≠ 0 by decide), rBad0 w00 (show (3 : Int32) ≠ 0 by decide), e10, in2, in3, in4, in5, in10, in14, in29, in39, in40, in50, in100, in299, in999, bI_nn, bI_0, b1, b2, b3]
  | true =>
  obtain ⟨t, ht, rfl⟩ := inB_t (by omega) b3
  cases b4 : inB x4 3 with
  | false =>
    refine Step.bad hI (k := 1) (v := 0) (b := 0) (c := 3) ?_ ?_ (by decide)
    · unfold mX8_guessed; simp only [bd_q, jp_q, ob_q, on_q, if_true, if_false, Bool.false_eq_true, Bool.true_eq_false, Bool.not_true, Bool.not_false, pr99, pr9, pr8, cReqS h, cReqT h, cReqQ h, cReqL h, cReqB, cReq0, cReq1, cTenthB, cAskB, cFitB, xqz, xq1, xq2, xq3, pl2, pl3, pl4, pl5, pl14, pl40, pl50, pl100, pl999, pe3, pe11, pe30, pe40, pe300, bI_if, bI_0, b1, b2, b3, b4]
    · show mX9_guessed u (nI s) (nI o) (nI t) x4 = _
      unfold mX9_guessed; simp only [bd_q, jp_q, ob_q, on_q, if_true, if_false, Bool.false_eq_true, Bool.true_eq_false, Bool.not_true, Bool.not_false, ir99, ir9, ir8, w0e, rIsS hw, rIsT hw, rIsQ hw, rIsL hw, rBad w00 _ (show (1 : Int32) ≠ 0 by decide), rBad w00 _ (show (2 : Int32) ≠ 0 by decide), rBad w00 _ (show (3 : Int32) ≠ 0 by decide), rBad1 w00 (show (1 : Int32) ≠ 0 by decide), rBad1 w00 (show (2 : Int32) ≠ 0 by decide), rBad1 w00 (show (3 : Int32) ≠ 0 by decide), rBad0 w00 (show (1 : Int32) ≠ 0 by decide), rBad0 w00 (show (2 : Int32) ≠ 0 by decide), rBad0 w00 (show (3 : Int32) ≠ 0 by decide), e10, in2, in3, in4, in5, in10, in14, in29, in39, in40, in50, in100, in299, in999, bI_nn, bI_0, b1, b2, b3, b4]
  | true =>
  obtain ⟨a, ha, rfl⟩ := inB_t (by decide) b4
  have lw := (QF.w0 (u := u) (c := 0)).lk2
  obtain ⟨n, y, hy, hn, en, ey⟩ := h.ay s t ha
  obtain ⟨m, g, hg, hm, em, eg⟩ := h.ay o t ha
  have a1 := h.askC (s := s) (t := t) ha
  have a2 := h.yesC (s := s) (t := t) ha
  have a3 := h.askC (s := o) (t := t) ha
  have a4 := h.yesC (s := o) (t := t) ha
  have b1' := hw.askR (s := s) (t := t) ha
  have b2' := hw.yesR (s := s) (t := t) ha
  have b3' := hw.askR (s := o) (t := t) ha
  have b4' := hw.yesR (s := o) (t := t) ha
  rw [show lkF (w0 u) = lkF u from lw] at b1' b2' b3' b4'
  rw [en] at a1 b1'
  rw [ey] at a2 b2'
  rw [em] at a3 b3'
  rw [eg] at a4 b4'
  refine Step.same h hv (v := if nI n * (nI m - nI g) = 0 then -1 else (if 0 < (1000 * (nI y * nI m - nI g * nI n)) / (nI n * (nI m - nI g)) then (1000 * (nI y * nI m - nI g * nI n)) / (nI n * (nI m - nI g)) else 0)) ?_ ?_
  · unfold mX8_guessed; simp only [bd_q, jp_q, ob_q, on_q, if_true, if_false, Bool.false_eq_true, Bool.true_eq_false, Bool.not_true, Bool.not_false, pr99, pr9, pr8, cReqS h, cReqT h, cReqQ h, cReqL h, cReqB, cReq0, cReq1, cTenthB, cAskB, cFitB, xqz, xq1, xq2, xq3, pl2, pl3, pl4, pl5, pl14, pl40, pl50, pl100, pl999, pe3, pe11, pe30, pe40, pe300, bI_if, bI_0, b1, b2, b3, b4, inB_in02, a1, a2, a3, a4]
    by_cases c : nI n * (nI m - nI g) = 0
    · rw [if_pos c, if_pos c]
    · rw [if_neg c, if_neg c, nz_ok c]; simp only [ob_q]
  · show mX9_guessed u (nI s) (nI o) (nI t) (nI a) = _
    unfold mX9_guessed; simp only [bd_q, jp_q, ob_q, on_q, if_true, if_false, Bool.false_eq_true, Bool.true_eq_false, Bool.not_true, Bool.not_false, ir99, ir9, ir8, w0e, rIsS hw, rIsT hw, rIsQ hw, rIsL hw, rBad w00 _ (show (1 : Int32) ≠ 0 by decide), rBad w00 _ (show (2 : Int32) ≠ 0 by decide), rBad w00 _ (show (3 : Int32) ≠ 0 by decide), rBad1 w00 (show (1 : Int32) ≠ 0 by decide), rBad1 w00 (show (2 : Int32) ≠ 0 by decide), rBad1 w00 (show (3 : Int32) ≠ 0 by decide), rBad0 w00 (show (1 : Int32) ≠ 0 by decide), rBad0 w00 (show (2 : Int32) ≠ 0 by decide), rBad0 w00 (show (3 : Int32) ≠ 0 by decide), e10, in2, in3, in4, in5, in10, in14, in29, in39, in40, in50, in100, in299, in999, bI_nn, bI_0, b1, b2, b3, b4, inB_in02, inB_in02, b1', b2', b3', b4', more0]
    by_cases c : nI n * (nI m - nI g) = 0
    · rw [if_pos c, if_pos c]
    · rw [if_neg c, if_neg c, nz_ok c]; simp only [ob_q]
-- apart
set_option maxHeartbeats 2000000 in
theorem s_apart (x1 x2 x3 x4 x5 x6 : Int32) : Step [2, 3, 1] (fun u => mX8_apart u x1 x2 x3 x4 x5 x6) (fun u => mX9_apart u x1 x2 x3 x4 x5 x6) := by
  intro u hI
  have ⟨p, h, hv⟩ := hI
  have hw := w0c h
  have n6 := h.1.1.1
  have t6 := h.1.1.2.1
  have q4 := h.1.1.2.2.1
  have n14 := h.2.2.2.2.2.1.2.1.1.1
  cases b1 : inB x1 (pNs p) with
  | false =>
    refine Step.bad hI (k := 2) (v := 0) (b := 0) (c := 1) ?_ ?_ (by decide)
    · unfold mX8_apart; simp only [bd_q, jp_q, ob_q, on_q, if_true, if_false, Bool.false_eq_true, Bool.true_eq_false, Bool.not_true, Bool.not_false, pr99, pr9, pr8, cReqS h, cReqT h, cReqQ h, cReqL h, cReqB, cReq0, cReq1, cTenthB, cAskB, cFitB, xqz, xq1, xq2, xq3, pl2, pl3, pl4, pl5, pl14, pl40, pl50, pl100, pl999, pe3, pe11, pe30, pe40, pe300, bI_if, bI_0, b1]
    · show mX9_apart u x1 x2 x3 x4 x5 x6 = _
      unfold mX9_apart; simp only [bd_q, jp_q, ob_q, on_q, if_true, if_false, Bool.false_eq_true, Bool.true_eq_false, Bool.not_true, Bool.not_false, ir99, ir9, ir8, w0e, rIsS hw, rIsT hw, rIsQ hw, rIsL hw, rBad w00 _ (show (1 : Int32) ≠ 0 by decide), rBad w00 _ (show (2 : Int32) ≠ 0 by decide), rBad w00 _ (show (3 : Int32) ≠ 0 by decide), rBad1 w00 (show (1 : Int32) ≠ 0 by decide), rBad1 w00 (show (2 : Int32) ≠ 0 by decide), rBad1 w00 (show (3 : Int32) ≠ 0 by decide), rBad0 w00 (show (1 : Int32) ≠ 0 by decide), rBad0 w00 (show (2 : Int32) ≠ 0 by decide), rBad0 w00 (show (3 : Int32) ≠ 0 by decide), e10, in2, in3, in4, in5, in10, in14, in29, in39, in40, in50, in100, in299, in999, bI_nn, bI_0, b1]
  | true =>
  obtain ⟨s, hs, rfl⟩ := inB_t (by omega) b1
  cases b2 : inB x3 (pNs p) with
  | false =>
    refine Step.bad hI (k := 2) (v := 0) (b := 0) (c := 1) ?_ ?_ (by decide)
    · unfold mX8_apart; simp only [bd_q, jp_q, ob_q, on_q, if_true, if_false, Bool.false_eq_true, Bool.true_eq_false, Bool.not_true, Bool.not_false, pr99, pr9, pr8, cReqS h, cReqT h, cReqQ h, cReqL h, cReqB, cReq0, cReq1, cTenthB, cAskB, cFitB, xqz, xq1, xq2, xq3, pl2, pl3, pl4, pl5, pl14, pl40, pl50, pl100, pl999, pe3, pe11, pe30, pe40, pe300, bI_if, bI_0, b1, b2]
    · show mX9_apart u (nI s) x2 x3 x4 x5 x6 = _
      unfold mX9_apart; simp only [bd_q, jp_q, ob_q, on_q, if_true, if_false, Bool.false_eq_true, Bool.true_eq_false, Bool.not_true, Bool.not_false, ir99, ir9, ir8, w0e, rIsS hw, rIsT hw, rIsQ hw, rIsL hw, rBad w00 _ (show (1 : Int32) ≠ 0 by decide), rBad w00 _ (show (2 : Int32) ≠ 0 by decide), rBad w00 _ (show (3 : Int32) ≠ 0 by decide), rBad1 w00 (show (1 : Int32) ≠ 0 by decide), rBad1 w00 (show (2 : Int32) ≠ 0 by decide), rBad1 w00 (show (3 : Int32) ≠ 0 by decide), rBad0 w00 (show (1 : Int32) ≠ 0 by decide), rBad0 w00 (show (2 : Int32) ≠ 0 by decide), rBad0 w00 (show (3 : Int32) ≠ 0 by decide), e10, in2, in3, in4, in5, in10, in14, in29, in39, in40, in50, in100, in299, in999, bI_nn, bI_0, b1, b2]
  | true =>
  obtain ⟨o, ho, rfl⟩ := inB_t (by omega) b2
  cases b3 : inB x2 (pNt p) with
  | false =>
    refine Step.bad hI (k := 3) (v := 0) (b := 0) (c := 2) ?_ ?_ (by decide)
    · unfold mX8_apart; simp only [bd_q, jp_q, ob_q, on_q, if_true, if_false, Bool.false_eq_true, Bool.true_eq_false, Bool.not_true, Bool.not_false, pr99, pr9, pr8, cReqS h, cReqT h, cReqQ h, cReqL h, cReqB, cReq0, cReq1, cTenthB, cAskB, cFitB, xqz, xq1, xq2, xq3, pl2, pl3, pl4, pl5, pl14, pl40, pl50, pl100, pl999, pe3, pe11, pe30, pe40, pe300, bI_if, bI_0, b1, b2, b3]
    · show mX9_apart u (nI s) x2 (nI o) x4 x5 x6 = _
      unfold mX9_apart; simp only [bd_q, jp_q, ob_q, on_q, if_true, if_false, Bool.false_eq_true, Bool.true_eq_false, Bool.not_true, Bool.not_false, ir99, ir9, ir8, w0e, rIsS hw, rIsT hw, rIsQ hw, rIsL hw, rBad w00 _ (show (1 : Int32) ≠ 0 by decide), rBad w00 _ (show (2 : Int32) ≠ 0 by decide), rBad w00 _ (show (3 : Int32) ≠ 0 by decide), rBad1 w00 (show (1 : Int32) ≠ 0 by decide), rBad1 w00 (show (2 : Int32) ≠ 0 by decide), rBad1 w00 (show (3 : Int32) ≠ 0 by decide), rBad0 w00 (show (1 : Int32) ≠ 0 by decide), rBad0 w00 (show (2 : Int32) ≠ 0 by decide), rBad0 w00 (show (3 : Int32) ≠ 0 by decide), e10, in2, in3, in4, in5, in10, in14, in29, in39, in40, in50, in100, in299, in999, bI_nn, bI_0, b1, b2, b3]
  | true =>
  obtain ⟨t, ht, rfl⟩ := inB_t (by omega) b3
  cases b4 : inB x4 (pNt p) with
  | false =>
    refine Step.bad hI (k := 3) (v := 0) (b := 0) (c := 2) ?_ ?_ (by decide)
    · unfold mX8_apart; simp only [bd_q, jp_q, ob_q, on_q, if_true, if_false, Bool.false_eq_true, Bool.true_eq_false, Bool.not_true, Bool.not_false, pr99, pr9, pr8, cReqS h, cReqT h, cReqQ h, cReqL h, cReqB, cReq0, cReq1, cTenthB, cAskB, cFitB, xqz, xq1, xq2, xq3, pl2, pl3, pl4, pl5, pl14, pl40, pl50, pl100, pl999, pe3, pe11, pe30, pe40, pe300, bI_if, bI_0, b1, b2, b3, b4]
    · show mX9_apart u (nI s) (nI t) (nI o) x4 x5 x6 = _
      unfold mX9_apart; simp only [bd_q, jp_q, ob_q, on_q, if_true, if_false, Bool.false_eq_true, Bool.true_eq_false, Bool.not_true, Bool.not_false, ir99, ir9, ir8, w0e, rIsS hw, rIsT hw, rIsQ hw, rIsL hw, rBad w00 _ (show (1 : Int32) ≠ 0 by decide), rBad w00 _ (show (2 : Int32) ≠ 0 by decide), rBad w00 _ (show (3 : Int32) ≠ 0 by decide), rBad1 w00 (show (1 : Int32) ≠ 0 by decide), rBad1 w00 (show (2 : Int32) ≠ 0 by decide), rBad1 w00 (show (3 : Int32) ≠ 0 by decide), rBad0 w00 (show (1 : Int32) ≠ 0 by decide), rBad0 w00 (show (2 : Int32) ≠ 0 by decide), rBad0 w00 (show (3 : Int32) ≠ 0 by decide), e10, in2, in3, in4, in5, in10, in14, in29, in39, in40, in50, in100, in299, in999, bI_nn, bI_0, b1, b2, b3, b4]
  | true =>
  obtain ⟨t2, ht2, rfl⟩ := inB_t (by omega) b4
  cases b5 : inB x5 3 with
  | false =>
    refine Step.bad hI (k := 1) (v := 0) (b := 0) (c := 3) ?_ ?_ (by decide)
    · unfold mX8_apart; simp only [bd_q, jp_q, ob_q, on_q, if_true, if_false, Bool.false_eq_true, Bool.true_eq_false, Bool.not_true, Bool.not_false, pr99, pr9, pr8, cReqS h, cReqT h, cReqQ h, cReqL h, cReqB, cReq0, cReq1, cTenthB, cAskB, cFitB, xqz, xq1, xq2, xq3, pl2, pl3, pl4, pl5, pl14, pl40, pl50, pl100, pl999, pe3, pe11, pe30, pe40, pe300, bI_if, bI_0, b1, b2, b3, b4, b5]
    · show mX9_apart u (nI s) (nI t) (nI o) (nI t2) x5 x6 = _
      unfold mX9_apart; simp only [bd_q, jp_q, ob_q, on_q, if_true, if_false, Bool.false_eq_true, Bool.true_eq_false, Bool.not_true, Bool.not_false, ir99, ir9, ir8, w0e, rIsS hw, rIsT hw, rIsQ hw, rIsL hw, rBad w00 _ (show (1 : Int32) ≠ 0 by decide), rBad w00 _ (show (2 : Int32) ≠ 0 by decide), rBad w00 _ (show (3 : Int32) ≠ 0 by decide), rBad1 w00 (show (1 : Int32) ≠ 0 by decide), rBad1 w00 (show (2 : Int32) ≠ 0 by decide), rBad1 w00 (show (3 : Int32) ≠ 0 by decide), rBad0 w00 (show (1 : Int32) ≠ 0 by decide), rBad0 w00 (show (2 : Int32) ≠ 0 by decide), rBad0 w00 (show (3 : Int32) ≠ 0 by decide), e10, in2, in3, in4, in5, in10, in14, in29, in39, in40, in50, in100, in299, in999, bI_nn, bI_0, b1, b2, b3, b4, b5]
  | true =>
  obtain ⟨a, ha, rfl⟩ := inB_t (by decide) b5
  cases b6 : inB x6 3 with
  | false =>
    refine Step.bad hI (k := 1) (v := 0) (b := 0) (c := 3) ?_ ?_ (by decide)
    · unfold mX8_apart; simp only [bd_q, jp_q, ob_q, on_q, if_true, if_false, Bool.false_eq_true, Bool.true_eq_false, Bool.not_true, Bool.not_false, pr99, pr9, pr8, cReqS h, cReqT h, cReqQ h, cReqL h, cReqB, cReq0, cReq1, cTenthB, cAskB, cFitB, xqz, xq1, xq2, xq3, pl2, pl3, pl4, pl5, pl14, pl40, pl50, pl100, pl999, pe3, pe11, pe30, pe40, pe300, bI_if, bI_0, b1, b2, b3, b4, b5, b6, inB_in02]
    · show mX9_apart u (nI s) (nI t) (nI o) (nI t2) (nI a) x6 = _
      unfold mX9_apart; simp only [bd_q, jp_q, ob_q, on_q, if_true, if_false, Bool.false_eq_true, Bool.true_eq_false, Bool.not_true, Bool.not_false, ir99, ir9, ir8, w0e, rIsS hw, rIsT hw, rIsQ hw, rIsL hw, rBad w00 _ (show (1 : Int32) ≠ 0 by decide), rBad w00 _ (show (2 : Int32) ≠ 0 by decide), rBad w00 _ (show (3 : Int32) ≠ 0 by decide), rBad1 w00 (show (1 : Int32) ≠ 0 by decide), rBad1 w00 (show (2 : Int32) ≠ 0 by decide), rBad1 w00 (show (3 : Int32) ≠ 0 by decide), rBad0 w00 (show (1 : Int32) ≠ 0 by decide), rBad0 w00 (show (2 : Int32) ≠ 0 by decide), rBad0 w00 (show (3 : Int32) ≠ 0 by decide), e10, in2, in3, in4, in5, in10, in14, in29, in39, in40, in50, in100, in299, in999, bI_nn, bI_0, b1, b2, b3, b4, b5, b6, inB_in02]
  | true =>
  obtain ⟨w, hwt, rfl⟩ := inB_t (by decide) b6
  have lw := (QF.w0 (u := u) (c := 0)).lk2
  obtain ⟨n, y, hy, hn, en, ey⟩ := h.ay s t ha
  obtain ⟨m, g, hg, hm, em, eg⟩ := h.ay o t2 ha
  have a1 := h.askC (s := s) (t := t) ha
  have a2 := h.yesC (s := s) (t := t) ha
  have a3 := h.askC (s := o) (t := t2) ha
  have a4 := h.yesC (s := o) (t := t2) ha
  have b1' := hw.askR (s := s) (t := t) ha
  have b2' := hw.yesR (s := s) (t := t) ha
  have b3' := hw.askR (s := o) (t := t2) ha
  have b4' := hw.yesR (s := o) (t := t2) ha
  rw [show lkF (w0 u) = lkF u from lw] at b1' b2' b3' b4'
  rw [en] at a1 b1'
  rw [ey] at a2 b2'
  rw [em] at a3 b3'
  rw [eg] at a4 b4'
  refine Step.same h hv (v := if w = 0 then nI y * nI m - nI g * nI n else if w = 1 then wyS (y + g) (n + m - (y + g)) n y (n + 1 - y) else chS (n + m) n) ?_ ?_
  · unfold mX8_apart; simp only [bd_q, jp_q, ob_q, on_q, if_true, if_false, Bool.false_eq_true, Bool.true_eq_false, Bool.not_true, Bool.not_false, pr99, pr9, pr8, cReqS h, cReqT h, cReqQ h, cReqL h, cReqB, cReq0, cReq1, cTenthB, cAskB, cFitB, xqz, xq1, xq2, xq3, pl2, pl3, pl4, pl5, pl14, pl40, pl50, pl100, pl999, pe3, pe11, pe30, pe40, pe300, bI_if, bI_0, b1, b2, b3, b4, b5, b6, inB_in02, kn02, a1, a2, a3, a4, kn02, nI_add]
    match w, hwt with
    | 0, _ => rw [if_pos (show nI 0 = (0 : Int32) from rfl), if_pos rfl]
    | 1, _ => rw [if_neg (by decide), if_pos (by rfl), if_neg (by decide), if_pos rfl, cWays hn hm hy hg]; simp only [ob_q]
    | 2, _ => rw [if_neg (by decide), if_neg (by decide), if_neg (by decide), if_neg (by decide), cChoose (by omega) (by omega)]; simp only [ob_q]
  · show mX9_apart u (nI s) (nI t) (nI o) (nI t2) (nI a) (nI w) = _
    unfold mX9_apart; simp only [bd_q, jp_q, ob_q, on_q, if_true, if_false, Bool.false_eq_true, Bool.true_eq_false, Bool.not_true, Bool.not_false, ir99, ir9, ir8, w0e, rIsS hw, rIsT hw, rIsQ hw, rIsL hw, rBad w00 _ (show (1 : Int32) ≠ 0 by decide), rBad w00 _ (show (2 : Int32) ≠ 0 by decide), rBad w00 _ (show (3 : Int32) ≠ 0 by decide), rBad1 w00 (show (1 : Int32) ≠ 0 by decide), rBad1 w00 (show (2 : Int32) ≠ 0 by decide), rBad1 w00 (show (3 : Int32) ≠ 0 by decide), rBad0 w00 (show (1 : Int32) ≠ 0 by decide), rBad0 w00 (show (2 : Int32) ≠ 0 by decide), rBad0 w00 (show (3 : Int32) ≠ 0 by decide), e10, in2, in3, in4, in5, in10, in14, in29, in39, in40, in50, in100, in299, in999, bI_nn, bI_0, b1, b2, b3, b4, b5, b6, inB_in02, kn02, inB_in02, b1', b2', b3', b4', nI_add]
    match w, hwt with
    | 0, _ => rw [if_pos (show nI 0 = (0 : Int32) from rfl), if_pos rfl]
    | 1, _ => rw [if_neg (by decide), if_neg (by decide), if_neg (by decide), if_pos rfl]; rw [rWays hn hm hy hg]
    | 2, _ => rw [if_neg (by decide), if_pos (by rfl), if_neg (by decide), if_neg (by decide), rChoose (by omega) (by omega)]; simp only [ob_q]
