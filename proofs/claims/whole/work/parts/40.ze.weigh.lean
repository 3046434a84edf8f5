def StepC (cf : HS → Option Int32) (rf : HS → Option (Int32 × HS)) : Prop := ∀ u, IV u → ∃ v u2, cf u = some v ∧ rf u = some (v, u2) ∧ IV u2
theorem s_count (x : Int32) : StepC (fun u => mX8_count u x) (fun u => mX9_count u x) := by
  intro u hI
  have ⟨p, h, hv⟩ := hI
  obtain ⟨-, ⟨c1, c2, c3, c4⟩, d1, d2, d3, d4⟩ := h.1
  obtain ⟨⟨a1, a2, a3⟩, ⟨b1, b2, b3, b4⟩, -⟩ := h.2.2.2.2.2.1
  obtain ⟨hh, -, t1, t2, -⟩ := h.2.1
  have hI2 : IV (w0 u) := ⟨p, w0c h, QF.w0.s w054 hv⟩
  refine ⟨if x = 0 then nI (pNs p) else if x = 1 then nI (pNt p) else if x = 2 then nI (pNl p) else if x = 3 then nI (pN p) else if x = 4 then nI (pNr p) else if x = 5 then nI (pNb p) else if x = 6 then nI (pNi p) else if x = 7 then nI hh else if x = 8 then gI u 9 0 31 else -1, w0 u, ?_, ?_, hI2⟩
  · show mX8_count u x = _
    unfold mX8_count
    simp only [c1, c2, c3, c4, t1, b1.2.1, b2.2.1, b3.2.1, b4.2]
    repeat' (first | rfl | split)
  show mX9_count u x = _
  unfold mX9_count
  have g : ∀ k, k ≠ 0 → gI (w0 u) 9 0 k = gI u 9 0 k := fun k hk => gI_k hk
  simp only [bd_q, w0e, g 14 (by decide), g 15 (by decide), g 16 (by decide), g 28 (by decide), g 29 (by decide), g 30 (by decide), g 32 (by decide), g 1 (by decide), g 31 (by decide), d1, d2, d3, d4, a1, a2, a3, t2]
  repeat' (first | rfl | split)
theorem s_fault : StepC mX8_fault mX9_fault := by
  intro u hI
  have ⟨p, h, hv⟩ := hI
  obtain ⟨hh, -, t1, t2, -, t3⟩ := h.2.1
  refine ⟨gI u 5 0 6, w0 u, rfl, ?_, ⟨p, w0c h, QF.w0.s w054 hv⟩⟩
  unfold mX9_fault
  simp only [bd_q, w0e, show gI (w0 u) 9 0 3 = gI u 9 0 3 from gI_k (by decide), t3]
-- weigh
set_option maxHeartbeats 2000000 in
theorem s_weigh (x1 x2 : Int32) : Step [3, 1] (fun u => mX8_weigh u x1 x2) (fun u => mX9_weigh u x1 x2) := by
  intro u hI
  have ⟨p, h, hv⟩ := hI
  have hw := w0c h
  have n6 := h.1.1.1
  have t6 := h.1.1.2.1
  have q4 := h.1.1.2.2.1
  have n14 := h.2.2.2.2.2.1.2.1.1.1
  cases b1 : inB x1 (pNl p) with
  | false =>
    refine Step.bad hI (k := 3) (v := 0) (b := 0) (c := 1) ?_ ?_ (by decide)
    · unfold mX8_weigh; simp only [bd_q, jp_q, ob_q, on_q, if_true, if_false, Bool.false_eq_true, Bool.true_eq_false, Bool.not_true, Bool.not_false, pr99, pr9, pr8, cReqS h, cReqT h, cReqQ h, cReqL h, cReqB, cReq0, cReq1, cTenthB, cAskB, cFitB, xqz, xq1, xq2, xq3, pl2, pl3, pl4, pl5, pl14, pl40, pl50, pl100, pl999, pe3, pe11, pe30, pe40, pe300, bI_if, bI_0, b1]
    · show mX9_weigh u x1 x2 = _
      unfold mX9_weigh; simp only [bd_q, jp_q, ob_q, on_q, if_true, if_false, Bool.false_eq_true, Bool.true_eq_false, Bool.not_true, Bool.not_false, ir99, ir9, ir8, w0e, rIsS hw, rIsT hw, rIsQ hw, rIsL hw, rBad w00 _ (show (1 : Int32) ≠ 0 by decide), rBad w00 _ (show (2 : Int32) ≠ 0 by decide), rBad w00 _ (show (3 : Int32) ≠ 0 by decide), rBad1 w00 (show (1 : Int32) ≠ 0 by decide), rBad1 w00 (show (2 : Int32) ≠ 0 by decide), rBad1 w00 (show (3 : Int32) ≠ 0 by decide), rBad0 w00 (show (1 : Int32) ≠ 0 by decide), rBad0 w00 (show (2 : Int32) ≠ 0 by decide), rBad0 w00 (show (3 : Int32) ≠ 0 by decide), e10, in2, in3, in4, in5, in10, in14, in29, in39, in40, in50, in100, in299, in999, bI_nn, bI_0, b1]
  | true =>
  obtain ⟨q, hq, rfl⟩ := inB_t (by omega) b1
  cases b2 : inR x2 1 (nI 9) with
  | false =>
    refine Step.bad hI (k := 1) (v := 0) (b := 0) (c := 2) ?_ ?_ (by decide)
    · unfold mX8_weigh; simp only [bd_q, jp_q, ob_q, on_q, if_true, if_false, Bool.false_eq_true, Bool.true_eq_false, Bool.not_true, Bool.not_false, pr99, pr9, pr8, cReqS h, cReqT h, cReqQ h, cReqL h, cReqB, cReq0, cReq1, cTenthB, cAskB, cFitB, xqz, xq1, xq2, xq3, pl2, pl3, pl4, pl5, pl14, pl40, pl50, pl100, pl999, pe3, pe11, pe30, pe40, pe300, bI_if, bI_0, b1, b2]
    · show mX9_weigh u (nI q) x2 = _
      unfold mX9_weigh; simp only [bd_q, jp_q, ob_q, on_q, if_true, if_false, Bool.false_eq_true, Bool.true_eq_false, Bool.not_true, Bool.not_false, ir99, ir9, ir8, w0e, rIsS hw, rIsT hw, rIsQ hw, rIsL hw, rBad w00 _ (show (1 : Int32) ≠ 0 by decide), rBad w00 _ (show (2 : Int32) ≠ 0 by decide), rBad w00 _ (show (3 : Int32) ≠ 0 by decide), rBad1 w00 (show (1 : Int32) ≠ 0 by decide), rBad1 w00 (show (2 : Int32) ≠ 0 by decide), rBad1 w00 (show (3 : Int32) ≠ 0 by decide), rBad0 w00 (show (1 : Int32) ≠ 0 by decide), rBad0 w00 (show (2 : Int32) ≠ 0 by decide), rBad0 w00 (show (3 : Int32) ≠ 0 by decide), e10, in2, in3, in4, in5, in10, in14, in29, in39, in40, in50, in100, in299, in999, bI_nn, bI_0, b1, b2]
  | true =>
  obtain ⟨f, hf1, hf2, rfl⟩ := inR_t (by decide) b2
  obtain ⟨u1, hu1⟩ : ∃ u1, u1 = wI u 31 0 q (nI f) := ⟨_, rfl⟩
  obtain ⟨⟨a1, a2, a3⟩, ⟨d1, d2, d3, d4⟩, e1, e2, e3, e4⟩ := h.2.2.2.2.2.1
  have q4 : q < 4 := by omega
  have g77 : gI (w0 u1) 77 = gI u 77 := by rw [hu1]; unfold w0; rw [gI_r (by decide), gI_r (by decide)]
  have g16 : gI (w0 u1) 9 0 16 = nI (pNl p) := by rw [hu1]; unfold w0; rw [gI_k (by decide), gI_r (by decide)]; exact h.rl
  refine Step.ok (u1 := u1) (u2 := wI (w0 u1) 77 0 q (nI f)) (v := gI u 77 0 q) ?_ ?_ ?_ ?_
  · unfold mX8_weigh; simp only [bd_q, jp_q, ob_q, on_q, if_true, if_false, Bool.false_eq_true, Bool.true_eq_false, Bool.not_true, Bool.not_false, pr99, pr9, pr8, cReqS h, cReqT h, cReqQ h, cReqL h, cReqB, cReq0, cReq1, cTenthB, cAskB, cFitB, xqz, xq1, xq2, xq3, pl2, pl3, pl4, pl5, pl14, pl40, pl50, pl100, pl999, pe3, pe11, pe30, pe40, pe300, bI_if, bI_0, b1, b2, ck_nI q4 (show 4 < 2 ^ 31 by decide), d4.1 q q4, ← hu1]
  · show mX9_weigh u1 (nI q) (nI f) = _
    unfold mX9_weigh; simp only [bd_q, jp_q, ob_q, on_q, if_true, if_false, Bool.false_eq_true, Bool.true_eq_false, Bool.not_true, Bool.not_false, ir99, ir9, ir8, w0e, rIsS hw, rIsT hw, rIsQ hw, rIsL hw, rBad w00 _ (show (1 : Int32) ≠ 0 by decide), rBad w00 _ (show (2 : Int32) ≠ 0 by decide), rBad w00 _ (show (3 : Int32) ≠ 0 by decide), rBad1 w00 (show (1 : Int32) ≠ 0 by decide), rBad1 w00 (show (2 : Int32) ≠ 0 by decide), rBad1 w00 (show (3 : Int32) ≠ 0 by decide), rBad0 w00 (show (1 : Int32) ≠ 0 by decide), rBad0 w00 (show (2 : Int32) ≠ 0 by decide), rBad0 w00 (show (3 : Int32) ≠ 0 by decide), e10, in2, in3, in4, in5, in10, in14, in29, in39, in40, in50, in100, in299, in999, bI_nn, bI_0, b1, b2, rIsQ' g16 h.1.1.2.2.1, ck_nI q4 (show 4 < 2 ^ 31 by decide), g77]
  · rw [gI_r (by decide), w00]
  · have g9 : gI (wI (w0 u1) 77 0 q (nI f)) 9 0 31 = gI u 9 0 31 := by rw [gI_r (by decide), hu1]; unfold w0; rw [gI_k (by decide), gI_r (by decide)]
    have gw : ∀ l, gI (wI (w0 u1) 77 0 q (nI f)) 77 0 l = if l = q then nI f else gI u 77 0 l := fun l => by
      by_cases e : l = q
      · rw [if_pos e, e, gI_eq]
      · rw [if_neg e, gI_k e, g77]
    refine IV.weights h hv ?_ ?_ ?_ ?_ ?_ ?_ ?_
    · rw [hu1]; exact ((CF.rf.h (by decide)).w0 (by decide)).f (by decide)
    · rw [gI_r (by decide), hu1]; unfold w0; rw [gI_r (by decide), gI_r (by decide)]
    · intro k hk; rw [gI_r (by decide), hu1]; unfold w0; rw [gI_r (by decide), gI_r (by decide)]
    · intro r hr; rw [gI_r (by omega), hu1]; unfold w0; rw [gI_r (by omega), gI_r (by omega)]
    · rw [hu1]; unfold w0; exact ⟨by rw [gI_r (by decide), gI_r (by decide), gI_r (by decide)], by rw [gI_r (by decide), gI_r (by decide), gI_r (by decide)], by rw [gI_r (by decide), gI_r (by decide), gI_r (by decide)]⟩
    · refine ⟨fun l hl => ?_, ?_⟩
      · rw [gw]
        by_cases e : l = q
        · rw [if_pos e, e, gI_r (by decide), hu1]; unfold w0; rw [gI_r (by decide), gI_eq]
        · rw [if_neg e, gI_r (by decide), hu1]; unfold w0; rw [gI_r (by decide), gI_k e]; exact d4.1 l hl
      · rw [g9, gI_r (by decide), hu1]; unfold w0; rw [gI_r (by decide), gI_r (by decide)]; exact d4.2
    · refine ⟨fun l hl => ?_, fun l h1 h2 => ?_, by rw [g9]; exact e4.2.2⟩
      · rw [gw]
        by_cases e : l = q
        · rw [if_pos e]; exact ⟨f, hf1, by omega, rfl⟩
        · rw [if_neg e]; exact e4.1 l hl
      · rw [gw, if_neg (by omega)]; exact e4.2.1 l h1 h2
-- wrong
set_option maxHeartbeats 2000000 in
theorem s_wrong (x1 : Int32) : Step [1] (fun u => mX8_wrong u x1) (fun u => mX9_wrong u x1) := by
  intro u hI
  have ⟨p, h, hv⟩ := hI
  have hw := w0c h
  have n6 := h.1.1.1
  have t6 := h.1.1.2.1
  have q4 := h.1.1.2.2.1
  have n14 := h.2.2.2.2.2.1.2.1.1.1
  cases b1 : inR x1 1 (nI 8) with
  | false =>
    refine Step.bad hI (k := 1) (v := 0) (b := 0) (c := 1) ?_ ?_ (by decide)
    · unfold mX8_wrong; simp only [bd_q, jp_q, ob_q, on_q, if_true, if_false, Bool.false_eq_true, Bool.true_eq_false, Bool.not_true, Bool.not_false, pr99, pr9, pr8, cReqS h, cReqT h, cReqQ h, cReqL h, cReqB, cReq0, cReq1, cTenthB, cAskB, cFitB, xqz, xq1, xq2, xq3, pl2, pl3, pl4, pl5, pl14, pl40, pl50, pl100, pl999, pe3, pe11, pe30, pe40, pe300, bI_if, bI_0, b1]
    · show mX9_wrong u x1 = _
      unfold mX9_wrong; simp only [bd_q, jp_q, ob_q, on_q, if_true, if_false, Bool.false_eq_true, Bool.true_eq_false, Bool.not_true, Bool.not_false, ir99, ir9, ir8, w0e, rIsS hw, rIsT hw, rIsQ hw, rIsL hw, rBad w00 _ (show (1 : Int32) ≠ 0 by decide), rBad w00 _ (show (2 : Int32) ≠ 0 by decide), rBad w00 _ (show (3 : Int32) ≠ 0 by decide), rBad1 w00 (show (1 : Int32) ≠ 0 by decide), rBad1 w00 (show (2 : Int32) ≠ 0 by decide), rBad1 w00 (show (3 : Int32) ≠ 0 by decide), rBad0 w00 (show (1 : Int32) ≠ 0 by decide), rBad0 w00 (show (2 : Int32) ≠ 0 by decide), rBad0 w00 (show (3 : Int32) ≠ 0 by decide), e10, in2, in3, in4, in5, in10, in14, in29, in39, in40, in50, in100, in299, in999, bI_nn, bI_0, b1]
  | true =>
  obtain ⟨f, hf1, hf2, rfl⟩ := inR_t (by decide) b1
  obtain ⟨u1, hu1⟩ : ∃ u1, u1 = wI u 0 0 16 (nI f) := ⟨_, rfl⟩
  obtain ⟨⟨a1, a2, a3⟩, ⟨d1, d2, d3, d4⟩, e1, e2, e3, e4⟩ := h.2.2.2.2.2.1
  have g31 : gI (w0 u1) 9 0 31 = gI u 9 0 31 := by rw [hu1]; unfold w0; rw [gI_k (by decide), gI_r (by decide)]
  refine Step.ok (u1 := u1) (u2 := wI (w0 u1) 9 0 31 (nI f)) (v := gI u 9 0 31) ?_ ?_ ?_ ?_
  · unfold mX8_wrong; simp only [bd_q, jp_q, ob_q, on_q, if_true, if_false, Bool.false_eq_true, Bool.true_eq_false, Bool.not_true, Bool.not_false, pr99, pr9, pr8, cReqS h, cReqT h, cReqQ h, cReqL h, cReqB, cReq0, cReq1, cTenthB, cAskB, cFitB, xqz, xq1, xq2, xq3, pl2, pl3, pl4, pl5, pl14, pl40, pl50, pl100, pl999, pe3, pe11, pe30, pe40, pe300, bI_if, bI_0, b1, d4.2, ← hu1]
  · show mX9_wrong u1 (nI f) = _
    unfold mX9_wrong; simp only [bd_q, jp_q, ob_q, on_q, if_true, if_false, Bool.false_eq_true, Bool.true_eq_false, Bool.not_true, Bool.not_false, ir99, ir9, ir8, w0e, rIsS hw, rIsT hw, rIsQ hw, rIsL hw, rBad w00 _ (show (1 : Int32) ≠ 0 by decide), rBad w00 _ (show (2 : Int32) ≠ 0 by decide), rBad w00 _ (show (3 : Int32) ≠ 0 by decide), rBad1 w00 (show (1 : Int32) ≠ 0 by decide), rBad1 w00 (show (2 : Int32) ≠ 0 by decide), rBad1 w00 (show (3 : Int32) ≠ 0 by decide), rBad0 w00 (show (1 : Int32) ≠ 0 by decide), rBad0 w00 (show (2 : Int32) ≠ 0 by decide), rBad0 w00 (show (3 : Int32) ≠ 0 by decide), e10, in2, in3, in4, in5, in10, in14, in29, in39, in40, in50, in100, in299, in999, bI_nn, bI_0, b1, g31]
  · rw [gI_k (by decide), w00]
  · have g77 : gI (wI (w0 u1) 9 0 31 (nI f)) 77 0 = gI u 77 0 := by rw [gI_r (by decide), hu1]; unfold w0; rw [gI_r (by decide), gI_r (by decide)]
    refine IV.weights h hv ?_ ?_ ?_ ?_ ?_ ?_ ?_
    · rw [hu1]; exact ((CF.rf.h (by decide)).w0 (by decide)).w9 (by decide)
    · rw [gI_r (by decide), hu1]; unfold w0; rw [gI_r (by decide), gI_r (by decide)]
    · intro k hk; rw [gI_r (by decide), hu1]; unfold w0; rw [gI_r (by decide), gI_k hk]
    · intro r hr; rw [gI_r (by omega), hu1]; unfold w0; rw [gI_r (by omega), gI_r (by omega)]
    · rw [hu1]; unfold w0; exact ⟨by rw [gI_r (by decide), gI_r (by decide), gI_r (by decide)], by rw [gI_r (by decide), gI_r (by decide), gI_r (by decide)], by rw [gI_r (by decide), gI_r (by decide), gI_r (by decide)]⟩
    · refine ⟨fun l hl => ?_, ?_⟩
      · rw [g77, gI_r (by decide), hu1]; unfold w0; rw [gI_r (by decide), gI_r (by decide)]; exact d4.1 l hl
      · rw [gI_eq, gI_r (by decide), hu1]; unfold w0; rw [gI_r (by decide), gI_eq]
    · rw [g77, gI_eq]; exact ⟨e4.1, e4.2.1, f, hf1, by omega, rfl⟩
