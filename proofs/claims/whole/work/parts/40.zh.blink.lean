-- blink
set_option maxHeartbeats 2000000 in
theorem s_blink (x1 x2 x3 : Int32) : Step [1] (fun u => mX8_blink u x1 x2 x3) (fun u => mX9_blink u x1 x2 x3) := by
  intro u hI
  have ⟨p, h, hv⟩ := hI
  have hw := w0c h
  have n6 := h.1.1.1
  have t6 := h.1.1.2.1
  have q4 := h.1.1.2.2.1
  have n14 := h.2.2.2.2.2.1.2.1.1.1
  cases b1 : inB x1 (pN p) with
  | false =>
    refine Step.bad hI (k := 1) (v := 0) (b := 0) (c := 1) ?_ ?_ (by decide)
    · unfold mX8_blink; simp only [bd_q, jp_q, ob_q, on_q, if_true, if_false, Bool.false_eq_true, Bool.true_eq_false, Bool.not_true, Bool.not_false, pr99, pr9, pr8, cReqS h, cReqT h, cReqQ h, cReqL h, cReqB, cReq0, cReq1, cTenthB, cAskB, cFitB, xqz, xq1, xq2, xq3, pl2, pl3, pl4, pl5, pl14, pl40, pl50, pl100, pl999, pe3, pe11, pe30, pe40, pe300, bI_if, bI_0, b1]
    · show mX9_blink u x1 x2 x3 = _
      unfold mX9_blink; simp only [bd_q, jp_q, ob_q, on_q, if_true, if_false, Bool.false_eq_true, Bool.true_eq_false, Bool.not_true, Bool.not_false, ir99, ir9, ir8, w0e, rIsS hw, rIsT hw, rIsQ hw, rIsL hw, rBad w00 _ (show (1 : Int32) ≠ 0 by decide), rBad w00 _ (show (2 : Int32) ≠ 0 by decide), rBad w00 _ (show (3 : Int32) ≠ 0 by decide), rBad1 w00 (show (1 : Int32) ≠ 0 by decide), rBad1 w00 (show (2 : Int32) ≠ 0 by decide), rBad1 w00 (show (3 : Int32) ≠ 0 by decide), rBad0 w00 (show (1 : Int32) ≠ 0 by decide), rBad0 w00 (show (2 : Int32) ≠ 0 by decide), rBad0 w00 (show (3 : Int32) ≠ 0 by decide), e10, in2, in3, in4, in5, in10, in14, in29, in39, in40, in50, in100, in299, in999, bI_nn, bI_0, b1]
  | true =>
  obtain ⟨l, hl, rfl⟩ := inB_t (by omega) b1
  cases b2 : inB x2 300 with
  | false =>
    refine Step.bad hI (k := 1) (v := 0) (b := 0) (c := 1) ?_ ?_ (by decide)
    · unfold mX8_blink; simp only [bd_q, jp_q, ob_q, on_q, if_true, if_false, Bool.false_eq_true, Bool.true_eq_false, Bool.not_true, Bool.not_false, pr99, pr9, pr8, cReqS h, cReqT h, cReqQ h, cReqL h, cReqB, cReq0, cReq1, cTenthB, cAskB, cFitB, xqz, xq1, xq2, xq3, pl2, pl3, pl4, pl5, pl14, pl40, pl50, pl100, pl999, pe3, pe11, pe30, pe40, pe300, bI_if, bI_0, b1, b2]
    · show mX9_blink u (nI l) x2 x3 = _
      unfold mX9_blink; simp only [bd_q, jp_q, ob_q, on_q, if_true, if_false, Bool.false_eq_true, Bool.true_eq_false, Bool.not_true, Bool.not_false, ir99, ir9, ir8, w0e, rIsS hw, rIsT hw, rIsQ hw, rIsL hw, rBad w00 _ (show (1 : Int32) ≠ 0 by decide), rBad w00 _ (show (2 : Int32) ≠ 0 by decide), rBad w00 _ (show (3 : Int32) ≠ 0 by decide), rBad1 w00 (show (1 : Int32) ≠ 0 by decide), rBad1 w00 (show (2 : Int32) ≠ 0 by decide), rBad1 w00 (show (3 : Int32) ≠ 0 by decide), rBad0 w00 (show (1 : Int32) ≠ 0 by decide), rBad0 w00 (show (2 : Int32) ≠ 0 by decide), rBad0 w00 (show (3 : Int32) ≠ 0 by decide), e10, in2, in3, in4, in5, in10, in14, in29, in39, in40, in50, in100, in299, in999, bI_nn, bI_0, b1, b2]
  | true =>
  obtain ⟨a, ha, rfl⟩ := inB_t (by decide) b2
  cases b3 : inB x3 300 with
  | false =>
    refine Step.bad hI (k := 1) (v := 0) (b := 0) (c := 1) ?_ ?_ (by decide)
    · unfold mX8_blink; simp only [bd_q, jp_q, ob_q, on_q, if_true, if_false, Bool.false_eq_true, Bool.true_eq_false, Bool.not_true, Bool.not_false, pr99, pr9, pr8, cReqS h, cReqT h, cReqQ h, cReqL h, cReqB, cReq0, cReq1, cTenthB, cAskB, cFitB, xqz, xq1, xq2, xq3, pl2, pl3, pl4, pl5, pl14, pl40, pl50, pl100, pl999, pe3, pe11, pe30, pe40, pe300, bI_if, bI_0, b1, b2, b3]
    · show mX9_blink u (nI l) (nI a) x3 = _
      unfold mX9_blink; simp only [bd_q, jp_q, ob_q, on_q, if_true, if_false, Bool.false_eq_true, Bool.true_eq_false, Bool.not_true, Bool.not_false, ir99, ir9, ir8, w0e, rIsS hw, rIsT hw, rIsQ hw, rIsL hw, rBad w00 _ (show (1 : Int32) ≠ 0 by decide), rBad w00 _ (show (2 : Int32) ≠ 0 by decide), rBad w00 _ (show (3 : Int32) ≠ 0 by decide), rBad1 w00 (show (1 : Int32) ≠ 0 by decide), rBad1 w00 (show (2 : Int32) ≠ 0 by decide), rBad1 w00 (show (3 : Int32) ≠ 0 by decide), rBad0 w00 (show (1 : Int32) ≠ 0 by decide), rBad0 w00 (show (2 : Int32) ≠ 0 by decide), rBad0 w00 (show (3 : Int32) ≠ 0 by decide), e10, in2, in3, in4, in5, in10, in14, in29, in39, in40, in50, in100, in299, in999, bI_nn, bI_0, b1, b2, in_le _ ha, b3, Bool.false_and]
  | true =>
  obtain ⟨z, hz, rfl⟩ := inB_t (by decide) b3
  by_cases b4' : decide (a ≤ z) = true
  rotate_left
  · have hza : z < a := by
      have := of_decide_eq_false (eq_false_of_ne_true b4'); omega
    have nlt : nI z < nI a := nI_lt hza (by omega)
    refine Step.bad hI (k := 1) (v := 0) (b := 0) (c := 1) ?_ ?_ (by decide)
    · unfold mX8_blink; simp only [bd_q, jp_q, ob_q, on_q, if_true, if_false, Bool.false_eq_true, Bool.true_eq_false, Bool.not_true, Bool.not_false, pr99, pr9, pr8, cReqS h, cReqT h, cReqQ h, cReqL h, cReqB, cReq0, cReq1, cTenthB, cAskB, cFitB, xqz, xq1, xq2, xq3, pl2, pl3, pl4, pl5, pl14, pl40, pl50, pl100, pl999, pe3, pe11, pe30, pe40, pe300, bI_if, bI_0, b1, b2, b3, nlt]
    · show mX9_blink u (nI l) (nI a) (nI z) = _
      unfold mX9_blink; simp only [bd_q, jp_q, ob_q, on_q, if_true, if_false, Bool.false_eq_true, Bool.true_eq_false, Bool.not_true, Bool.not_false, ir99, ir9, ir8, w0e, rIsS hw, rIsT hw, rIsQ hw, rIsL hw, rBad w00 _ (show (1 : Int32) ≠ 0 by decide), rBad w00 _ (show (2 : Int32) ≠ 0 by decide), rBad w00 _ (show (3 : Int32) ≠ 0 by decide), rBad1 w00 (show (1 : Int32) ≠ 0 by decide), rBad1 w00 (show (2 : Int32) ≠ 0 by decide), rBad1 w00 (show (3 : Int32) ≠ 0 by decide), rBad0 w00 (show (1 : Int32) ≠ 0 by decide), rBad0 w00 (show (2 : Int32) ≠ 0 by decide), rBad0 w00 (show (3 : Int32) ≠ 0 by decide), e10, in2, in3, in4, in5, in10, in14, in29, in39, in40, in50, in100, in299, in999, bI_nn, bI_0, b1, b2, in_le _ ha, b3, show decide (nI a ≤ nI z) = false from decide_eq_false (Int32.not_le.mpr nlt), Bool.and_false]
  
  obtain ⟨l14, ls, lt, l0, l1, m0, m1, lf⟩ := h.lk hl
  obtain ⟨⟨i1, i2, i3⟩, ⟨j1, j2, j3, j4⟩, -⟩ := h.2.2.2.2.2.1
  obtain ⟨u0, e0, f0, g0⟩ := cForget u l14
  obtain ⟨q0, s0⟩ := IV.forgot h hv l14 f0 g0
  have h0' := q0.c h
  have hr40 := j3.1
  have naz : nI a ≤ nI z := nI_le (of_decide_eq_true b4') (by omega)
  have nza : ¬ nI z < nI a := Int32.not_lt.mpr naz
  have haz : a ≤ z := of_decide_eq_true b4'
  have in_z : mX9_in (nI z) (nI a) 299 = some 1 := by rw [in_le (nI z) ha, b3, decide_eq_true naz]; rfl
  by_cases c40 : pNb p = 40
  · have z1 : gI u0 0 0 11 = 40 := by rw [f0.m1 (by decide) (by decide), j3.2.1, c40]; rfl
    have z2 : gI (w0 u0) 9 0 30 = 40 := by unfold w0; rw [gI_k (by decide), f0.2.1 30 (by simp), i3, c40]; rfl
    have z3 : gI (w0 u0) 9 0 28 = nI (pN p) := by unfold w0; rw [gI_k (by decide), f0.2.1 28 (by simp), i1]
    refine Step.ok (u1 := u0) (u2 := w0 u0) (v := -1) ?_ ?_ w00 ⟨p, w0c h0', QF.w0.s w054 s0⟩
    · unfold mX8_blink mX0_addBlink; simp only [bd_q, jp_q, ob_q, on_q, if_true, if_false, Bool.false_eq_true, Bool.true_eq_false, Bool.not_true, Bool.not_false, pr99, pr9, pr8, cReqS h, cReqT h, cReqQ h, cReqL h, cReqB, cReq0, cReq1, cTenthB, cAskB, cFitB, xqz, xq1, xq2, xq3, pl2, pl3, pl4, pl5, pl14, pl40, pl50, pl100, pl999, pe3, pe11, pe30, pe40, pe300, bI_if, bI_0, b1, b2, b3, nza, e0, z1]
    · show mX9_blink u0 (nI l) (nI a) (nI z) = _
      unfold mX9_blink; simp only [bd_q, jp_q, ob_q, on_q, if_true, if_false, Bool.false_eq_true, Bool.true_eq_false, Bool.not_true, Bool.not_false, ir99, ir9, ir8, w0e, rIsS hw, rIsT hw, rIsQ hw, rIsL hw, rBad w00 _ (show (1 : Int32) ≠ 0 by decide), rBad w00 _ (show (2 : Int32) ≠ 0 by decide), rBad w00 _ (show (3 : Int32) ≠ 0 by decide), rBad1 w00 (show (1 : Int32) ≠ 0 by decide), rBad1 w00 (show (2 : Int32) ≠ 0 by decide), rBad1 w00 (show (3 : Int32) ≠ 0 by decide), rBad0 w00 (show (1 : Int32) ≠ 0 by decide), rBad0 w00 (show (2 : Int32) ≠ 0 by decide), rBad0 w00 (show (3 : Int32) ≠ 0 by decide), e10, in2, in3, in4, in5, in10, in14, in29, in39, in40, in50, in100, in299, in999, bI_nn, bI_0, b1, b2, b3, in_z, rIsL' z3 n14, z2]
  · have hr : pNb p < 40 := by omega
    have z1 : gI u0 0 0 11 = nI (pNb p) := by rw [f0.m1 (by decide) (by decide), j3.2.1]
    obtain ⟨u1, hu1⟩ : ∃ u1, u1 = wI (wI (wI (wI u0 28 0 (pNb p) (nI l)) 29 0 (pNb p) (nI a)) 30 0 (pNb p) (nI z)) 0 0 11 (nI (pNb p + 1)) := ⟨_, rfl⟩
    have z2 : gI (w0 u1) 9 0 30 = nI (pNb p) := by rw [hu1]; unfold w0; rw [gI_k (by decide), gI_r (by decide), gI_r (by decide), gI_r (by decide), gI_r (by decide), f0.2.1 30 (by simp), i3]
    have z3 : gI (w0 u1) 9 0 28 = nI (pN p) := by rw [hu1]; unfold w0; rw [gI_k (by decide), gI_r (by decide), gI_r (by decide), gI_r (by decide), gI_r (by decide), f0.2.1 28 (by simp), i1]
    have n40 : ¬ nI (pNb p) = 40 := fun y => c40 ((nI_eq (b := 40) (by omega) (by decide)).mp y)
    obtain ⟨u2, hu2⟩ : ∃ u2, u2 = wI (wI (wI (wI (w0 u1) 85 (pNb p) 0 (nI l)) 85 (pNb p) 1 (nI a)) 85 (pNb p) 2 (nI z)) 9 0 30 (nI (pNb p + 1)) := ⟨_, rfl⟩
    have k40 : ck 40 (nI (pNb p)) = some (pNb p) := ck_nI hr (by decide)
    refine Step.ok (u1 := u1) (u2 := u2) (v := nI (pNb p + 1)) ?_ ?_ ?_ ?_
    · unfold mX8_blink mX0_addBlink; simp only [bd_q, jp_q, ob_q, on_q, if_true, if_false, Bool.false_eq_true, Bool.true_eq_false, Bool.not_true, Bool.not_false, pr99, pr9, pr8, cReqS h, cReqT h, cReqQ h, cReqL h, cReqB, cReq0, cReq1, cTenthB, cAskB, cFitB, xqz, xq1, xq2, xq3, pl2, pl3, pl4, pl5, pl14, pl40, pl50, pl100, pl999, pe3, pe11, pe30, pe40, pe300, bI_if, bI_0, b1, b2, b3, nza, e0, gI_wI, show ((0 : Nat) = 28) = False by decide, show ((0 : Nat) = 29) = False by decide, show ((0 : Nat) = 30) = False by decide, false_and, z1, n40, k40, nI_1, and_self, ← hu1]
    · show mX9_blink u1 (nI l) (nI a) (nI z) = _
      unfold mX9_blink; simp only [bd_q, jp_q, ob_q, on_q, if_true, if_false, Bool.false_eq_true, Bool.true_eq_false, Bool.not_true, Bool.not_false, ir99, ir9, ir8, w0e, rIsS hw, rIsT hw, rIsQ hw, rIsL hw, rBad w00 _ (show (1 : Int32) ≠ 0 by decide), rBad w00 _ (show (2 : Int32) ≠ 0 by decide), rBad w00 _ (show (3 : Int32) ≠ 0 by decide), rBad1 w00 (show (1 : Int32) ≠ 0 by decide), rBad1 w00 (show (2 : Int32) ≠ 0 by decide), rBad1 w00 (show (3 : Int32) ≠ 0 by decide), rBad0 w00 (show (1 : Int32) ≠ 0 by decide), rBad0 w00 (show (2 : Int32) ≠ 0 by decide), rBad0 w00 (show (3 : Int32) ≠ 0 by decide), e10, in2, in3, in4, in5, in10, in14, in29, in39, in40, in50, in100, in299, in999, bI_nn, bI_0, b1, b2, b3, in_z, rIsL' z3 n14, gI_wI, show ((9 : Nat) = 85) = False by decide, false_and, z2, n40, k40, nI_1, and_self, show ck 3 0 = some 0 from by decide, show ck 3 1 = some 1 from by decide, show ck 3 2 = some 2 from by decide, ← hu2]
    · rw [hu2, gI_k (by decide), gI_r (by decide), gI_r (by decide), gI_r (by decide), w00]
    · have G : ∀ r i k, gI u2 r i k = if r = 9 ∧ i = 0 ∧ k = 30 then nI (pNb p + 1) else if r = 85 ∧ i = pNb p ∧ k = 2 then nI z else if r = 85 ∧ i = pNb p ∧ k = 1 then nI a else if r = 85 ∧ i = pNb p ∧ k = 0 then nI l else if r = 9 ∧ i = 0 ∧ k = 0 then 0 else if r = 0 ∧ i = 0 ∧ k = 11 then nI (pNb p + 1) else if r = 30 ∧ i = 0 ∧ k = pNb p then nI z else if r = 29 ∧ i = 0 ∧ k = pNb p then nI a else if r = 28 ∧ i = 0 ∧ k = pNb p then nI l else gI u0 r i k := fun r i k => by rw [hu2, hu1]; unfold w0; simp only [gI_wI]
      have G2 : ∀ r i, (r ≠ 9 ∧ r ≠ 85 ∧ r ≠ 0 ∧ r ≠ 28 ∧ r ≠ 29 ∧ r ≠ 30) ∨ (r = 85 ∧ i ≠ pNb p) → gI u2 r i = gI u0 r i := fun r i hh => funext fun k => by rw [G]; repeat (rw [if_neg (by omega)])
      have U : ∀ r i, r ≠ 54 → r ≠ 9 → gI u0 r i = gI u r i := fun r i a b => by rw [f0.1 r (by simpa using a) b]
      refine IV.blink h hv (a := a) (z := z) hl hr haz hz ?_ ?_ ?_ ?_ ?_ ?_ ?_ ?_ ?_ ?_ ?_ ?_
      · rw [hu2, hu1]
        exact (((((((((CF.rf.fr f0).h (by decide)).h (by decide)).h (by decide)).h (by decide)).w0 (by decide)).f (by decide)).f (by decide)).f (by decide)).w9 (by decide)
      · funext i; rw [G2 81 i (by omega), U 81 i (by decide) (by decide)]
      · intro k hk; rw [G2 85 k (by omega), U 85 k (by decide) (by decide)]
      · exact ⟨by rw [G]; simp, by rw [G]; simp, by rw [G]; simp⟩
      · exact ⟨funext fun i => by rw [G2 83 i (by omega), U 83 i (by decide) (by decide)], funext fun i => by rw [G2 77 i (by omega), U 77 i (by decide) (by decide)]⟩
      · rw [G]; simp
      · intro k hk
        rw [G]
        repeat (rw [if_neg (by omega)])
        rw [U 0 0 (by decide) (by decide)]
      · rw [G]; simp
      · intro r k hr' hk
        rw [G]
        repeat (rw [if_neg (by omega)])
        rw [U r 0 (by omega) (by omega)]
      · exact ⟨by rw [G]; simp, by rw [G]; simp, by rw [G]; simp⟩
      · intro r hr'
        rw [G2 r 0 (by omega), U r 0 (by omega) (by omega)]
      · intro k
        rw [G2 54 0 (by omega)]
        exact g0 k
