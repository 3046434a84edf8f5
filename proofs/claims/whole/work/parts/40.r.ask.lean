-- told
set_option maxHeartbeats 2000000 in
theorem s_told (x1 x2 : Int32) : Step [2, 1] (fun u => mX8_told u x1 x2) (fun u => mX9_told u x1 x2) := by
  intro u hI
  have ⟨p, h, hv⟩ := hI
  have hw := w0c h
  have n6 := h.1.1.1
  have t6 := h.1.1.2.1
  have q4 := h.1.1.2.2.1
  have n14 := h.2.2.2.2.2.1.2.1.1.1
  cases b1 : inB x1 (pNs p) with
  | false =>
    refine Step.bad hI (k := 2) (v := 0) (b := 0) (c := 1) ?_ ?_ (by decide)
    · unfold mX8_told; simp only [bd_q, jp_q, ob_q, on_q, if_true, if_false, Bool.false_eq_true, Bool.true_eq_false, Bool.not_true, Bool.not_false, pr99, pr9, pr8, cReqS h, cReqT h, cReqQ h, cReqL h, cReqB, cReq0, cReq1, cTenthB, cAskB, cFitB, xqz, xq1, xq2, xq3, pl2, pl3, pl4, pl5, pl14, pl40, pl50, pl100, pl999, pe3, pe11, pe30, pe40, pe300, bI_if, bI_0, b1]
    · show mX9_told u x1 x2 = _
      unfold mX9_told; simp only [bd_q, jp_q, ob_q, on_q, if_true, if_false, Bool.false_eq_true, Bool.true_eq_false, Bool.not_true, Bool.not_false, ir99, ir9, ir8, w0e, rIsS hw, rIsT hw, rIsQ hw, rIsL hw, rBad w00 _ (show (1 : Int32) ≠ 0 by decide), rBad w00 _ (show (2 : Int32) ≠ 0 by decide), rBad w00 _ (show (3 : Int32) ≠ 0 by decide), rBad1 w00 (show (1 : Int32) ≠ 0 by decide), rBad1 w00 (show (2 : Int32) ≠ 0 by decide), rBad1 w00 (show (3 : Int32) ≠ 0 by decide), rBad0 w00 (show (1 : Int32) ≠ 0 by decide), rBad0 w00 (show (2 : Int32) ≠ 0 by decide), rBad0 w00 (show (3 : Int32) ≠ 0 by decide), e10, in2, in3, in4, in5, in10, in14, in29, in39, in40, in50, in100, in299, in999, bI_nn, bI_0, b1]
  | true =>
  obtain ⟨s, hs, rfl⟩ := inB_t (by omega) b1
  have hs6 : s < 6 := by omega
  obtain ⟨r, s2⟩ := h.2.2.1 s hs
  obtain ⟨r2, -⟩ := hw.2.2.1 s hs
  have hc := s2.1.2.1
  have hT8 := s2.1.2.2.2
  have s3 := s2
  obtain ⟨-, ⟨a0, a1, a2, a3, a4, a5, a6⟩, -⟩ := s3
  cases b2 : inB x2 6 with
  | false =>
    refine Step.bad hI (k := 1) (v := 0) (b := 0) (c := 2) ?_ ?_ (by decide)
    · unfold mX8_told; simp only [bd_q, jp_q, ob_q, on_q, if_true, if_false, Bool.false_eq_true, Bool.true_eq_false, Bool.not_true, Bool.not_false, pr99, pr9, pr8, cReqS h, cReqT h, cReqQ h, cReqL h, cReqB, cReq0, cReq1, cTenthB, cAskB, cFitB, xqz, xq1, xq2, xq3, pl2, pl3, pl4, pl5, pl14, pl40, pl50, pl100, pl999, pe3, pe11, pe30, pe40, pe300, bI_if, bI_0, b1, b2]
    · show mX9_told u (nI s) x2 = _
      unfold mX9_told; simp only [bd_q, jp_q, ob_q, on_q, if_true, if_false, Bool.false_eq_true, Bool.true_eq_false, Bool.not_true, Bool.not_false, ir99, ir9, ir8, w0e, rIsS hw, rIsT hw, rIsQ hw, rIsL hw, rBad w00 _ (show (1 : Int32) ≠ 0 by decide), rBad w00 _ (show (2 : Int32) ≠ 0 by decide), rBad w00 _ (show (3 : Int32) ≠ 0 by decide), rBad1 w00 (show (1 : Int32) ≠ 0 by decide), rBad1 w00 (show (2 : Int32) ≠ 0 by decide), rBad1 w00 (show (3 : Int32) ≠ 0 by decide), rBad0 w00 (show (1 : Int32) ≠ 0 by decide), rBad0 w00 (show (2 : Int32) ≠ 0 by decide), rBad0 w00 (show (3 : Int32) ≠ 0 by decide), e10, in2, in3, in4, in5, in10, in14, in29, in39, in40, in50, in100, in299, in999, bI_nn, bI_0, b1, b2]
  | true =>
  obtain ⟨j, hj, rfl⟩ := inB_t (by decide) b2
  match j, hj with
  | 0, _ =>
    refine Step.ask h (v := nI (sT (pC p s))) (u1 := u) (u2 := w0 u) ?_ ?_ QF.rf hv QF.w0 w054 w00
    · unfold mX8_told; simp only [bd_q, jp_q, ob_q, on_q, if_true, if_false, Bool.false_eq_true, Bool.true_eq_false, Bool.not_true, Bool.not_false, pr99, pr9, pr8, cReqS h, cReqT h, cReqQ h, cReqL h, cReqB, cReq0, cReq1, cTenthB, cAskB, cFitB, xqz, xq1, xq2, xq3, pl2, pl3, pl4, pl5, pl14, pl40, pl50, pl100, pl999, pe3, pe11, pe30, pe40, pe300, bI_if, bI_0, b1, b2, ck_nI hs6 (show 6 < 2 ^ 31 by decide), show (nI 0 = 0) = True by decide, show (nI 0 = 1) = False by decide, show (nI 0 = 2) = False by decide, show (nI 0 = 3) = False by decide, show (nI 0 = 4) = False by decide, a0]
    · show mX9_told u (nI s) (nI 0) = _
      unfold mX9_told; simp only [bd_q, jp_q, ob_q, on_q, if_true, if_false, Bool.false_eq_true, Bool.true_eq_false, Bool.not_true, Bool.not_false, ir99, ir9, ir8, w0e, rIsS hw, rIsT hw, rIsQ hw, rIsL hw, rBad w00 _ (show (1 : Int32) ≠ 0 by decide), rBad w00 _ (show (2 : Int32) ≠ 0 by decide), rBad w00 _ (show (3 : Int32) ≠ 0 by decide), rBad1 w00 (show (1 : Int32) ≠ 0 by decide), rBad1 w00 (show (2 : Int32) ≠ 0 by decide), rBad1 w00 (show (3 : Int32) ≠ 0 by decide), rBad0 w00 (show (1 : Int32) ≠ 0 by decide), rBad0 w00 (show (2 : Int32) ≠ 0 by decide), rBad0 w00 (show (3 : Int32) ≠ 0 by decide), e10, in2, in3, in4, in5, in10, in14, in29, in39, in40, in50, in100, in299, in999, bI_nn, bI_0, b1, b2, ck_nI hs6 (show 6 < 2 ^ 31 by decide), show (nI 0 = 0) = True by decide, show (nI 0 = 3) = False by decide, show (nI 0 = 4) = False by decide, show ((3 : Int32) ≤ nI 0) = False by decide, r2.2.2.2.2.1]
  | 1, _ =>
    refine Step.ask h (v := numS (pC p s) 1) (u1 := u) (u2 := w0 u) ?_ ?_ QF.rf hv QF.w0 w054 w00
    · unfold mX8_told; simp only [bd_q, jp_q, ob_q, on_q, if_true, if_false, Bool.false_eq_true, Bool.true_eq_false, Bool.not_true, Bool.not_false, pr99, pr9, pr8, cReqS h, cReqT h, cReqQ h, cReqL h, cReqB, cReq0, cReq1, cTenthB, cAskB, cFitB, xqz, xq1, xq2, xq3, pl2, pl3, pl4, pl5, pl14, pl40, pl50, pl100, pl999, pe3, pe11, pe30, pe40, pe300, bI_if, bI_0, b1, b2, ck_nI hs6 (show 6 < 2 ^ 31 by decide), show (nI 1 = 0) = False by decide, show (nI 1 = 1) = True by decide, show (nI 1 = 2) = False by decide, show (nI 1 = 3) = False by decide, show (nI 1 = 4) = False by decide, a1, num_kl]
    · show mX9_told u (nI s) (nI 1) = _
      unfold mX9_told; simp only [bd_q, jp_q, ob_q, on_q, if_true, if_false, Bool.false_eq_true, Bool.true_eq_false, Bool.not_true, Bool.not_false, ir99, ir9, ir8, w0e, rIsS hw, rIsT hw, rIsQ hw, rIsL hw, rBad w00 _ (show (1 : Int32) ≠ 0 by decide), rBad w00 _ (show (2 : Int32) ≠ 0 by decide), rBad w00 _ (show (3 : Int32) ≠ 0 by decide), rBad1 w00 (show (1 : Int32) ≠ 0 by decide), rBad1 w00 (show (2 : Int32) ≠ 0 by decide), rBad1 w00 (show (3 : Int32) ≠ 0 by decide), rBad0 w00 (show (1 : Int32) ≠ 0 by decide), rBad0 w00 (show (2 : Int32) ≠ 0 by decide), rBad0 w00 (show (3 : Int32) ≠ 0 by decide), e10, in2, in3, in4, in5, in10, in14, in29, in39, in40, in50, in100, in299, in999, bI_nn, bI_0, b1, b2, ck_nI hs6 (show 6 < 2 ^ 31 by decide), show (nI 1 = 0) = False by decide, show (nI 1 = 3) = False by decide, show (nI 1 = 4) = False by decide, show ((3 : Int32) ≤ nI 1) = False by decide, rNum r2]; rfl
  | 2, _ =>
    refine Step.ask h (v := numS (pC p s) 2) (u1 := u) (u2 := w0 u) ?_ ?_ QF.rf hv QF.w0 w054 w00
    · unfold mX8_told; simp only [bd_q, jp_q, ob_q, on_q, if_true, if_false, Bool.false_eq_true, Bool.true_eq_false, Bool.not_true, Bool.not_false, pr99, pr9, pr8, cReqS h, cReqT h, cReqQ h, cReqL h, cReqB, cReq0, cReq1, cTenthB, cAskB, cFitB, xqz, xq1, xq2, xq3, pl2, pl3, pl4, pl5, pl14, pl40, pl50, pl100, pl999, pe3, pe11, pe30, pe40, pe300, bI_if, bI_0, b1, b2, ck_nI hs6 (show 6 < 2 ^ 31 by decide), show (nI 2 = 0) = False by decide, show (nI 2 = 1) = False by decide, show (nI 2 = 2) = True by decide, show (nI 2 = 3) = False by decide, show (nI 2 = 4) = False by decide, a2, num_kl]
    · show mX9_told u (nI s) (nI 2) = _
      unfold mX9_told; simp only [bd_q, jp_q, ob_q, on_q, if_true, if_false, Bool.false_eq_true, Bool.true_eq_false, Bool.not_true, Bool.not_false, ir99, ir9, ir8, w0e, rIsS hw, rIsT hw, rIsQ hw, rIsL hw, rBad w00 _ (show (1 : Int32) ≠ 0 by decide), rBad w00 _ (show (2 : Int32) ≠ 0 by decide), rBad w00 _ (show (3 : Int32) ≠ 0 by decide), rBad1 w00 (show (1 : Int32) ≠ 0 by decide), rBad1 w00 (show (2 : Int32) ≠ 0 by decide), rBad1 w00 (show (3 : Int32) ≠ 0 by decide), rBad0 w00 (show (1 : Int32) ≠ 0 by decide), rBad0 w00 (show (2 : Int32) ≠ 0 by decide), rBad0 w00 (show (3 : Int32) ≠ 0 by decide), e10, in2, in3, in4, in5, in10, in14, in29, in39, in40, in50, in100, in299, in999, bI_nn, bI_0, b1, b2, ck_nI hs6 (show 6 < 2 ^ 31 by decide), show (nI 2 = 0) = False by decide, show (nI 2 = 3) = False by decide, show (nI 2 = 4) = False by decide, show ((3 : Int32) ≤ nI 2) = False by decide, rNum r2]; rfl
  | 3, _ =>
    refine Step.ask h (v := endS (pC p s)) (u1 := u) (u2 := w0 u) ?_ ?_ QF.rf hv QF.w0 w054 w00
    · unfold mX8_told; simp only [bd_q, jp_q, ob_q, on_q, if_true, if_false, Bool.false_eq_true, Bool.true_eq_false, Bool.not_true, Bool.not_false, pr99, pr9, pr8, cReqS h, cReqT h, cReqQ h, cReqL h, cReqB, cReq0, cReq1, cTenthB, cAskB, cFitB, xqz, xq1, xq2, xq3, pl2, pl3, pl4, pl5, pl14, pl40, pl50, pl100, pl999, pe3, pe11, pe30, pe40, pe300, bI_if, bI_0, b1, b2, ck_nI hs6 (show 6 < 2 ^ 31 by decide), show (nI 3 = 0) = False by decide, show (nI 3 = 1) = False by decide, show (nI 3 = 2) = False by decide, show (nI 3 = 3) = True by decide, show (nI 3 = 4) = False by decide, a6]
    · show mX9_told u (nI s) (nI 3) = _
      unfold mX9_told; simp only [bd_q, jp_q, ob_q, on_q, if_true, if_false, Bool.false_eq_true, Bool.true_eq_false, Bool.not_true, Bool.not_false, ir99, ir9, ir8, w0e, rIsS hw, rIsT hw, rIsQ hw, rIsL hw, rBad w00 _ (show (1 : Int32) ≠ 0 by decide), rBad w00 _ (show (2 : Int32) ≠ 0 by decide), rBad w00 _ (show (3 : Int32) ≠ 0 by decide), rBad1 w00 (show (1 : Int32) ≠ 0 by decide), rBad1 w00 (show (2 : Int32) ≠ 0 by decide), rBad1 w00 (show (3 : Int32) ≠ 0 by decide), rBad0 w00 (show (1 : Int32) ≠ 0 by decide), rBad0 w00 (show (2 : Int32) ≠ 0 by decide), rBad0 w00 (show (3 : Int32) ≠ 0 by decide), e10, in2, in3, in4, in5, in10, in14, in29, in39, in40, in50, in100, in299, in999, bI_nn, bI_0, b1, b2, ck_nI hs6 (show 6 < 2 ^ 31 by decide), show (nI 3 = 0) = False by decide, show (nI 3 = 3) = True by decide, show (nI 3 = 4) = False by decide, show ((3 : Int32) ≤ nI 3) = True by decide, rEnd r2]
  | 4, _ =>
    refine Step.ask h (v := oddS (pC p s)) (u1 := u) (u2 := w0 u) ?_ ?_ QF.rf hv QF.w0 w054 w00
    · unfold mX8_told; simp only [bd_q, jp_q, ob_q, on_q, if_true, if_false, Bool.false_eq_true, Bool.true_eq_false, Bool.not_true, Bool.not_false, pr99, pr9, pr8, cReqS h, cReqT h, cReqQ h, cReqL h, cReqB, cReq0, cReq1, cTenthB, cAskB, cFitB, xqz, xq1, xq2, xq3, pl2, pl3, pl4, pl5, pl14, pl40, pl50, pl100, pl999, pe3, pe11, pe30, pe40, pe300, bI_if, bI_0, b1, b2, ck_nI hs6 (show 6 < 2 ^ 31 by decide), show (nI 4 = 0) = False by decide, show (nI 4 = 1) = False by decide, show (nI 4 = 2) = False by decide, show (nI 4 = 3) = False by decide, show (nI 4 = 4) = True by decide, a4]
    · show mX9_told u (nI s) (nI 4) = _
      unfold mX9_told; simp only [bd_q, jp_q, ob_q, on_q, if_true, if_false, Bool.false_eq_true, Bool.true_eq_false, Bool.not_true, Bool.not_false, ir99, ir9, ir8, w0e, rIsS hw, rIsT hw, rIsQ hw, rIsL hw, rBad w00 _ (show (1 : Int32) ≠ 0 by decide), rBad w00 _ (show (2 : Int32) ≠ 0 by decide), rBad w00 _ (show (3 : Int32) ≠ 0 by decide), rBad1 w00 (show (1 : Int32) ≠ 0 by decide), rBad1 w00 (show (2 : Int32) ≠ 0 by decide), rBad1 w00 (show (3 : Int32) ≠ 0 by decide), rBad0 w00 (show (1 : Int32) ≠ 0 by decide), rBad0 w00 (show (2 : Int32) ≠ 0 by decide), rBad0 w00 (show (3 : Int32) ≠ 0 by decide), e10, in2, in3, in4, in5, in10, in14, in29, in39, in40, in50, in100, in299, in999, bI_nn, bI_0, b1, b2, ck_nI hs6 (show 6 < 2 ^ 31 by decide), show (nI 4 = 0) = False by decide, show (nI 4 = 3) = False by decide, show (nI 4 = 4) = True by decide, show ((3 : Int32) ≤ nI 4) = True by decide, rOdd r2]
  | 5, _ =>
    refine Step.ask h (v := trnS (pC p s)) (u1 := u) (u2 := w0 u) ?_ ?_ QF.rf hv QF.w0 w054 w00
    · unfold mX8_told; simp only [bd_q, jp_q, ob_q, on_q, if_true, if_false, Bool.false_eq_true, Bool.true_eq_false, Bool.not_true, Bool.not_false, pr99, pr9, pr8, cReqS h, cReqT h, cReqQ h, cReqL h, cReqB, cReq0, cReq1, cTenthB, cAskB, cFitB, xqz, xq1, xq2, xq3, pl2, pl3, pl4, pl5, pl14, pl40, pl50, pl100, pl999, pe3, pe11, pe30, pe40, pe300, bI_if, bI_0, b1, b2, ck_nI hs6 (show 6 < 2 ^ 31 by decide), show (nI 5 = 0) = False by decide, show (nI 5 = 1) = False by decide, show (nI 5 = 2) = False by decide, show (nI 5 = 3) = False by decide, show (nI 5 = 4) = False by decide, a5]
    · show mX9_told u (nI s) (nI 5) = _
      unfold mX9_told; simp only [bd_q, jp_q, ob_q, on_q, if_true, if_false, Bool.false_eq_true, Bool.true_eq_false, Bool.not_true, Bool.not_false, ir99, ir9, ir8, w0e, rIsS hw, rIsT hw, rIsQ hw, rIsL hw, rBad w00 _ (show (1 : Int32) ≠ 0 by decide), rBad w00 _ (show (2 : Int32) ≠ 0 by decide), rBad w00 _ (show (3 : Int32) ≠ 0 by decide), rBad1 w00 (show (1 : Int32) ≠ 0 by decide), rBad1 w00 (show (2 : Int32) ≠ 0 by decide), rBad1 w00 (show (3 : Int32) ≠ 0 by decide), rBad0 w00 (show (1 : Int32) ≠ 0 by decide), rBad0 w00 (show (2 : Int32) ≠ 0 by decide), rBad0 w00 (show (3 : Int32) ≠ 0 by decide), e10, in2, in3, in4, in5, in10, in14, in29, in39, in40, in50, in100, in299, in999, bI_nn, bI_0, b1, b2, ck_nI hs6 (show 6 < 2 ^ 31 by decide), show (nI 5 = 0) = False by decide, show (nI 5 = 3) = False by decide, show (nI 5 = 4) = False by decide, show ((3 : Int32) ≤ nI 5) = True by decide, rTrn r2]
-- thing
set_option maxHeartbeats 2000000 in
theorem s_thing (x1 x2 x3 x4 : Int32) : Step [2, 1] (fun u => mX8_thing u x1 x2 x3 x4) (fun u => mX9_thing u x1 x2 x3 x4) := by
  intro u hI
  have ⟨p, h, hv⟩ := hI
  have hw := w0c h
  have n6 := h.1.1.1
  have t6 := h.1.1.2.1
  have q4 := h.1.1.2.2.1
  have n14 := h.2.2.2.2.2.1.2.1.1.1
  cases b1 : inB x1 (pNs p) with
  | false =>
    refine Step.bad hI (k := 2) (v := 0) (b := 0) (c := 1) ?_ ?_ (by decide)
    · unfold mX8_thing; simp only [bd_q, jp_q, ob_q, on_q, if_true, if_false, Bool.false_eq_true, Bool.true_eq_false, Bool.not_true, Bool.not_false, pr99, pr9, pr8, cReqS h, cReqT h, cReqQ h, cReqL h, cReqB, cReq0, cReq1, cTenthB, cAskB, cFitB, xqz, xq1, xq2, xq3, pl2, pl3, pl4, pl5, pl14, pl40, pl50, pl100, pl999, pe3, pe11, pe30, pe40, pe300, bI_if, bI_0, b1]
    · show mX9_thing u x1 x2 x3 x4 = _
      unfold mX9_thing; simp only [bd_q, jp_q, ob_q, on_q, if_true, if_false, Bool.false_eq_true, Bool.true_eq_false, Bool.not_true, Bool.not_false, ir99, ir9, ir8, w0e, rIsS hw, rIsT hw, rIsQ hw, rIsL hw, rBad w00 _ (show (1 : Int32) ≠ 0 by decide), rBad w00 _ (show (2 : Int32) ≠ 0 by decide), rBad w00 _ (show (3 : Int32) ≠ 0 by decide), rBad1 w00 (show (1 : Int32) ≠ 0 by decide), rBad1 w00 (show (2 : Int32) ≠ 0 by decide), rBad1 w00 (show (3 : Int32) ≠ 0 by decide), rBad0 w00 (show (1 : Int32) ≠ 0 by decide), rBad0 w00 (show (2 : Int32) ≠ 0 by decide), rBad0 w00 (show (3 : Int32) ≠ 0 by decide), e10, in2, in3, in4, in5, in10, in14, in29, in39, in40, in50, in100, in299, in999, bI_nn, bI_0, b1]
  | true =>
  obtain ⟨s, hs, rfl⟩ := inB_t (by omega) b1
  have hs6 : s < 6 := by omega
  obtain ⟨r, s2⟩ := h.2.2.1 s hs
  obtain ⟨r2, -⟩ := hw.2.2.1 s hs
  have hc := s2.1.2.1
  have hT8 := s2.1.2.2.2
  have s3 := s2
  obtain ⟨-, ⟨a0, a1, a2, a3, a4, a5, a6⟩, -⟩ := s3
  cases b2 : inB x2 (sT (pC p s)) with
  | false =>
    refine Step.bad hI (k := 1) (v := 0) (b := 0) (c := 2) ?_ ?_ (by decide)
    · unfold mX8_thing; simp only [bd_q, jp_q, ob_q, on_q, if_true, if_false, Bool.false_eq_true, Bool.true_eq_false, Bool.not_true, Bool.not_false, pr99, pr9, pr8, cReqS h, cReqT h, cReqQ h, cReqL h, cReqB, cReq0, cReq1, cTenthB, cAskB, cFitB, xqz, xq1, xq2, xq3, pl2, pl3, pl4, pl5, pl14, pl40, pl50, pl100, pl999, pe3, pe11, pe30, pe40, pe300, bI_if, bI_0, b1, b2, ck_nI hs6 (show 6 < 2 ^ 31 by decide), a0, r2.2.2.2.2.1, in0 _ (show sT (pC p s) < 2 ^ 31 by omega), pc1]
    · show mX9_thing u (nI s) x2 x3 x4 = _
      unfold mX9_thing; simp only [bd_q, jp_q, ob_q, on_q, if_true, if_false, Bool.false_eq_true, Bool.true_eq_false, Bool.not_true, Bool.not_false, ir99, ir9, ir8, w0e, rIsS hw, rIsT hw, rIsQ hw, rIsL hw, rBad w00 _ (show (1 : Int32) ≠ 0 by decide), rBad w00 _ (show (2 : Int32) ≠ 0 by decide), rBad w00 _ (show (3 : Int32) ≠ 0 by decide), rBad1 w00 (show (1 : Int32) ≠ 0 by decide), rBad1 w00 (show (2 : Int32) ≠ 0 by decide), rBad1 w00 (show (3 : Int32) ≠ 0 by decide), rBad0 w00 (show (1 : Int32) ≠ 0 by decide), rBad0 w00 (show (2 : Int32) ≠ 0 by decide), rBad0 w00 (show (3 : Int32) ≠ 0 by decide), e10, in2, in3, in4, in5, in10, in14, in29, in39, in40, in50, in100, in299, in999, bI_nn, bI_0, b1, b2, ck_nI hs6 (show 6 < 2 ^ 31 by decide), a0, r2.2.2.2.2.1, in0 _ (show sT (pC p s) < 2 ^ 31 by omega), pc1]
  | true =>
  obtain ⟨t, ht, rfl⟩ := inB_t (by omega) b2
  cases b3 : inB x3 300 with
  | false =>
    refine Step.bad hI (k := 1) (v := 0) (b := 0) (c := 2) ?_ ?_ (by decide)
    · unfold mX8_thing; simp only [bd_q, jp_q, ob_q, on_q, if_true, if_false, Bool.false_eq_true, Bool.true_eq_false, Bool.not_true, Bool.not_false, pr99, pr9, pr8, cReqS h, cReqT h, cReqQ h, cReqL h, cReqB, cReq0, cReq1, cTenthB, cAskB, cFitB, xqz, xq1, xq2, xq3, pl2, pl3, pl4, pl5, pl14, pl40, pl50, pl100, pl999, pe3, pe11, pe30, pe40, pe300, bI_if, bI_0, b1, b2, b3, ck_nI hs6 (show 6 < 2 ^ 31 by decide), a0, r2.2.2.2.2.1, in0 _ (show sT (pC p s) < 2 ^ 31 by omega), pc1]
    · show mX9_thing u (nI s) (nI t) x3 x4 = _
      unfold mX9_thing; simp only [bd_q, jp_q, ob_q, on_q, if_true, if_false, Bool.false_eq_true, Bool.true_eq_false, Bool.not_true, Bool.not_false, ir99, ir9, ir8, w0e, rIsS hw, rIsT hw, rIsQ hw, rIsL hw, rBad w00 _ (show (1 : Int32) ≠ 0 by decide), rBad w00 _ (show (2 : Int32) ≠ 0 by decide), rBad w00 _ (show (3 : Int32) ≠ 0 by decide), rBad1 w00 (show (1 : Int32) ≠ 0 by decide), rBad1 w00 (show (2 : Int32) ≠ 0 by decide), rBad1 w00 (show (3 : Int32) ≠ 0 by decide), rBad0 w00 (show (1 : Int32) ≠ 0 by decide), rBad0 w00 (show (2 : Int32) ≠ 0 by decide), rBad0 w00 (show (3 : Int32) ≠ 0 by decide), e10, in2, in3, in4, in5, in10, in14, in29, in39, in40, in50, in100, in299, in999, bI_nn, bI_0, b1, b2, b3, ck_nI hs6 (show 6 < 2 ^ 31 by decide), a0, r2.2.2.2.2.1, in0 _ (show sT (pC p s) < 2 ^ 31 by omega), pc1]
  | true =>
  obtain ⟨τ, hτ, rfl⟩ := inB_t (by decide) b3
  cases b4 : inB x4 6 with
  | false =>
    refine Step.bad hI (k := 1) (v := 0) (b := 0) (c := 2) ?_ ?_ (by decide)
    · unfold mX8_thing; simp only [bd_q, jp_q, ob_q, on_q, if_true, if_false, Bool.false_eq_true, Bool.true_eq_false, Bool.not_true, Bool.not_false, pr99, pr9, pr8, cReqS h, cReqT h, cReqQ h, cReqL h, cReqB, cReq0, cReq1, cTenthB, cAskB, cFitB, xqz, xq1, xq2, xq3, pl2, pl3, pl4, pl5, pl14, pl40, pl50, pl100, pl999, pe3, pe11, pe30, pe40, pe300, bI_if, bI_0, b1, b2, b3, b4, ck_nI hs6 (show 6 < 2 ^ 31 by decide), a0, r2.2.2.2.2.1, in0 _ (show sT (pC p s) < 2 ^ 31 by omega), pc1]
    · show mX9_thing u (nI s) (nI t) (nI τ) x4 = _
      unfold mX9_thing; simp only [bd_q, jp_q, ob_q, on_q, if_true, if_false, Bool.false_eq_true, Bool.true_eq_false, Bool.not_true, Bool.not_false, ir99, ir9, ir8, w0e, rIsS hw, rIsT hw, rIsQ hw, rIsL hw, rBad w00 _ (show (1 : Int32) ≠ 0 by decide), rBad w00 _ (show (2 : Int32) ≠ 0 by decide), rBad w00 _ (show (3 : Int32) ≠ 0 by decide), rBad1 w00 (show (1 : Int32) ≠ 0 by decide), rBad1 w00 (show (2 : Int32) ≠ 0 by decide), rBad1 w00 (show (3 : Int32) ≠ 0 by decide), rBad0 w00 (show (1 : Int32) ≠ 0 by decide), rBad0 w00 (show (2 : Int32) ≠ 0 by decide), rBad0 w00 (show (3 : Int32) ≠ 0 by decide), e10, in2, in3, in4, in5, in10, in14, in29, in39, in40, in50, in100, in299, in999, bI_nn, bI_0, b1, b2, b3, b4, ck_nI hs6 (show 6 < 2 ^ 31 by decide), a0, r2.2.2.2.2.1, in0 _ (show sT (pC p s) < 2 ^ 31 by omega), pc1]
  | true =>
  obtain ⟨j, hj, rfl⟩ := inB_t (by decide) b4
  have p0 : plcS (pC p s) (nI t) (nI τ) 0 = if isT (pC p s) (nI t) (nI τ) = false then -1 else cel (pC p s) t τ / 100 := by
    cases q : isT (pC p s) (nI t) (nI τ) with
    | false => rw [if_pos rfl]; unfold isT at q; unfold plcS; rw [Option.isSome_eq_false_iff, Option.isNone_iff_eq_none] at q; rw [q]; rfl
    | true => obtain ⟨X, Y, hX, hY, e1, e2, e3⟩ := cel_nI hc hτ q; rw [if_neg (by decide), e3, e1, (d100 (X := X) (Y := Y) (by omega) (by omega)).1]
  have p1 : plcS (pC p s) (nI t) (nI τ) 1 = if isT (pC p s) (nI t) (nI τ) = false then -1 else cel (pC p s) t τ - cel (pC p s) t τ / 100 * 100 := by
    cases q : isT (pC p s) (nI t) (nI τ) with
    | false => rw [if_pos rfl]; unfold isT at q; unfold plcS; rw [Option.isSome_eq_false_iff, Option.isNone_iff_eq_none] at q; rw [q]; rfl
    | true => obtain ⟨X, Y, hX, hY, e1, e2, e3⟩ := cel_nI hc hτ q; rw [if_neg (by decide), e3, e2, (d100 (X := X) (Y := Y) (by omega) (by omega)).2]
  have e69 : gI (w0 u) 69 (8 * s + t) 1 = sH (pC p s) t 1 := r2.2.2.2.2.2.2 t 1 (by omega)
  match j, hj with
  | 0, _ =>
    refine Step.ask h (v := plcS (pC p s) (nI t) (nI τ) 0) (u1 := u) (u2 := w0 u) ?_ ?_ QF.rf hv QF.w0 w054 w00
    · unfold mX8_thing; simp only [bd_q, jp_q, ob_q, on_q, if_true, if_false, Bool.false_eq_true, Bool.true_eq_false, Bool.not_true, Bool.not_false, pr99, pr9, pr8, cReqS h, cReqT h, cReqQ h, cReqL h, cReqB, cReq0, cReq1, cTenthB, cAskB, cFitB, xqz, xq1, xq2, xq3, pl2, pl3, pl4, pl5, pl14, pl40, pl50, pl100, pl999, pe3, pe11, pe30, pe40, pe300, bI_if, bI_0, b1, b2, b3, b4, ck_nI hs6 (show 6 < 2 ^ 31 by decide), a0, r2.2.2.2.2.1, in0 _ (show sT (pC p s) < 2 ^ 31 by omega), pc1, show (nI 0 = 0) = True by decide, show (nI 0 = 1) = False by decide, show (nI 0 = 2) = False by decide, show (nI 0 = 3) = False by decide, show (nI 0 = 4) = False by decide, cPl_in s2 ht hτ, cel_m1 hc hτ, p0]; split <;> rfl
    · show mX9_thing u (nI s) (nI t) (nI τ) (nI 0) = _
      unfold mX9_thing; simp only [bd_q, jp_q, ob_q, on_q, if_true, if_false, Bool.false_eq_true, Bool.true_eq_false, Bool.not_true, Bool.not_false, ir99, ir9, ir8, w0e, rIsS hw, rIsT hw, rIsQ hw, rIsL hw, rBad w00 _ (show (1 : Int32) ≠ 0 by decide), rBad w00 _ (show (2 : Int32) ≠ 0 by decide), rBad w00 _ (show (3 : Int32) ≠ 0 by decide), rBad1 w00 (show (1 : Int32) ≠ 0 by decide), rBad1 w00 (show (2 : Int32) ≠ 0 by decide), rBad1 w00 (show (3 : Int32) ≠ 0 by decide), rBad0 w00 (show (1 : Int32) ≠ 0 by decide), rBad0 w00 (show (2 : Int32) ≠ 0 by decide), rBad0 w00 (show (3 : Int32) ≠ 0 by decide), e10, in2, in3, in4, in5, in10, in14, in29, in39, in40, in50, in100, in299, in999, bI_nn, bI_0, b1, b2, b3, b4, ck_nI hs6 (show 6 < 2 ^ 31 by decide), a0, r2.2.2.2.2.1, in0 _ (show sT (pC p s) < 2 ^ 31 by omega), pc1, show (nI 0 = 0) = True by decide, show (nI 0 = 1) = False by decide, show (nI 0 = 2) = False by decide, show (nI 0 = 3) = False by decide, show (nI 0 = 4) = False by decide, show mX9_placeOf (w0 u) (nI s) (nI t) (nI τ) (nI 0) = some (plcS (pC p s) (nI t) (nI τ) 0) from rPlace0 r2 _ _]
  | 1, _ =>
    refine Step.ask h (v := plcS (pC p s) (nI t) (nI τ) 1) (u1 := u) (u2 := w0 u) ?_ ?_ QF.rf hv QF.w0 w054 w00
    · unfold mX8_thing; simp only [bd_q, jp_q, ob_q, on_q, if_true, if_false, Bool.false_eq_true, Bool.true_eq_false, Bool.not_true, Bool.not_false, pr99, pr9, pr8, cReqS h, cReqT h, cReqQ h, cReqL h, cReqB, cReq0, cReq1, cTenthB, cAskB, cFitB, xqz, xq1, xq2, xq3, pl2, pl3, pl4, pl5, pl14, pl40, pl50, pl100, pl999, pe3, pe11, pe30, pe40, pe300, bI_if, bI_0, b1, b2, b3, b4, ck_nI hs6 (show 6 < 2 ^ 31 by decide), a0, r2.2.2.2.2.1, in0 _ (show sT (pC p s) < 2 ^ 31 by omega), pc1, show (nI 1 = 0) = False by decide, show (nI 1 = 1) = True by decide, show (nI 1 = 2) = False by decide, show (nI 1 = 3) = False by decide, show (nI 1 = 4) = False by decide, cPl_in s2 ht hτ, cel_m1 hc hτ, p1]; split <;> rfl
    · show mX9_thing u (nI s) (nI t) (nI τ) (nI 1) = _
      unfold mX9_thing; simp only [bd_q, jp_q, ob_q, on_q, if_true, if_false, Bool.false_eq_true, Bool.true_eq_false, Bool.not_true, Bool.not_false, ir99, ir9, ir8, w0e, rIsS hw, rIsT hw, rIsQ hw, rIsL hw, rBad w00 _ (show (1 : Int32) ≠ 0 by decide), rBad w00 _ (show (2 : Int32) ≠ 0 by decide), rBad w00 _ (show (3 : Int32) ≠ 0 by decide), rBad1 w00 (show (1 : Int32) ≠ 0 by decide), rBad1 w00 (show (2 : Int32) ≠ 0 by decide), rBad1 w00 (show (3 : Int32) ≠ 0 by decide), rBad0 w00 (show (1 : Int32) ≠ 0 by decide), rBad0 w00 (show (2 : Int32) ≠ 0 by decide), rBad0 w00 (show (3 : Int32) ≠ 0 by decide), e10, in2, in3, in4, in5, in10, in14, in29, in39, in40, in50, in100, in299, in999, bI_nn, bI_0, b1, b2, b3, b4, ck_nI hs6 (show 6 < 2 ^ 31 by decide), a0, r2.2.2.2.2.1, in0 _ (show sT (pC p s) < 2 ^ 31 by omega), pc1, show (nI 1 = 0) = False by decide, show (nI 1 = 1) = True by decide, show (nI 1 = 2) = False by decide, show (nI 1 = 3) = False by decide, show (nI 1 = 4) = False by decide, show mX9_placeOf (w0 u) (nI s) (nI t) (nI τ) (nI 1) = some (plcS (pC p s) (nI t) (nI τ) 1) from rPlace1 r2 _ _]
  | 2, _ =>
    refine Step.ask h (v := colS (pC p s) (nI t) (nI τ)) (u1 := u) (u2 := w0 u) ?_ ?_ QF.rf hv QF.w0 w054 w00
    · unfold mX8_thing; simp only [bd_q, jp_q, ob_q, on_q, if_true, if_false, Bool.false_eq_true, Bool.true_eq_false, Bool.not_true, Bool.not_false, pr99, pr9, pr8, cReqS h, cReqT h, cReqQ h, cReqL h, cReqB, cReq0, cReq1, cTenthB, cAskB, cFitB, xqz, xq1, xq2, xq3, pl2, pl3, pl4, pl5, pl14, pl40, pl50, pl100, pl999, pe3, pe11, pe30, pe40, pe300, bI_if, bI_0, b1, b2, b3, b4, ck_nI hs6 (show 6 < 2 ^ 31 by decide), a0, r2.2.2.2.2.1, in0 _ (show sT (pC p s) < 2 ^ 31 by omega), pc1, show (nI 2 = 0) = False by decide, show (nI 2 = 1) = False by decide, show (nI 2 = 2) = True by decide, show (nI 2 = 3) = False by decide, show (nI 2 = 4) = False by decide, cPl_in s2 ht hτ, cTi_in s2 ht hτ]
    · show mX9_thing u (nI s) (nI t) (nI τ) (nI 2) = _
      unfold mX9_thing; simp only [bd_q, jp_q, ob_q, on_q, if_true, if_false, Bool.false_eq_true, Bool.true_eq_false, Bool.not_true, Bool.not_false, ir99, ir9, ir8, w0e, rIsS hw, rIsT hw, rIsQ hw, rIsL hw, rBad w00 _ (show (1 : Int32) ≠ 0 by decide), rBad w00 _ (show (2 : Int32) ≠ 0 by decide), rBad w00 _ (show (3 : Int32) ≠ 0 by decide), rBad1 w00 (show (1 : Int32) ≠ 0 by decide), rBad1 w00 (show (2 : Int32) ≠ 0 by decide), rBad1 w00 (show (3 : Int32) ≠ 0 by decide), rBad0 w00 (show (1 : Int32) ≠ 0 by decide), rBad0 w00 (show (2 : Int32) ≠ 0 by decide), rBad0 w00 (show (3 : Int32) ≠ 0 by decide), e10, in2, in3, in4, in5, in10, in14, in29, in39, in40, in50, in100, in299, in999, bI_nn, bI_0, b1, b2, b3, b4, ck_nI hs6 (show 6 < 2 ^ 31 by decide), a0, r2.2.2.2.2.1, in0 _ (show sT (pC p s) < 2 ^ 31 by omega), pc1, show (nI 2 = 0) = False by decide, show (nI 2 = 1) = False by decide, show (nI 2 = 2) = True by decide, show (nI 2 = 3) = False by decide, show (nI 2 = 4) = False by decide, rCol r2 ht]
  | 3, _ =>
    refine Step.ask h (v := pacS (pC p s) (nI t) (nI τ)) (u1 := u) (u2 := w0 u) ?_ ?_ QF.rf hv QF.w0 w054 w00
    · unfold mX8_thing; simp only [bd_q, jp_q, ob_q, on_q, if_true, if_false, Bool.false_eq_true, Bool.true_eq_false, Bool.not_true, Bool.not_false, pr99, pr9, pr8, cReqS h, cReqT h, cReqQ h, cReqL h, cReqB, cReq0, cReq1, cTenthB, cAskB, cFitB, xqz, xq1, xq2, xq3, pl2, pl3, pl4, pl5, pl14, pl40, pl50, pl100, pl999, pe3, pe11, pe30, pe40, pe300, bI_if, bI_0, b1, b2, b3, b4, ck_nI hs6 (show 6 < 2 ^ 31 by decide), a0, r2.2.2.2.2.1, in0 _ (show sT (pC p s) < 2 ^ 31 by omega), pc1, show (nI 3 = 0) = False by decide, show (nI 3 = 1) = False by decide, show (nI 3 = 2) = False by decide, show (nI 3 = 3) = True by decide, show (nI 3 = 4) = False by decide, cPl_in s2 ht hτ, cPace s2 ht hτ]
    · show mX9_thing u (nI s) (nI t) (nI τ) (nI 3) = _
      unfold mX9_thing; simp only [bd_q, jp_q, ob_q, on_q, if_true, if_false, Bool.false_eq_true, Bool.true_eq_false, Bool.not_true, Bool.not_false, ir99, ir9, ir8, w0e, rIsS hw, rIsT hw, rIsQ hw, rIsL hw, rBad w00 _ (show (1 : Int32) ≠ 0 by decide), rBad w00 _ (show (2 : Int32) ≠ 0 by decide), rBad w00 _ (show (3 : Int32) ≠ 0 by decide), rBad1 w00 (show (1 : Int32) ≠ 0 by decide), rBad1 w00 (show (2 : Int32) ≠ 0 by decide), rBad1 w00 (show (3 : Int32) ≠ 0 by decide), rBad0 w00 (show (1 : Int32) ≠ 0 by decide), rBad0 w00 (show (2 : Int32) ≠ 0 by decide), rBad0 w00 (show (3 : Int32) ≠ 0 by decide), e10, in2, in3, in4, in5, in10, in14, in29, in39, in40, in50, in100, in299, in999, bI_nn, bI_0, b1, b2, b3, b4, ck_nI hs6 (show 6 < 2 ^ 31 by decide), a0, r2.2.2.2.2.1, in0 _ (show sT (pC p s) < 2 ^ 31 by omega), pc1, show (nI 3 = 0) = False by decide, show (nI 3 = 1) = False by decide, show (nI 3 = 2) = False by decide, show (nI 3 = 3) = True by decide, show (nI 3 = 4) = False by decide, rPace r2]
  | 4, _ =>
    refine Step.ask h (v := sH (pC p s) t 1) (u1 := u) (u2 := w0 u) ?_ ?_ QF.rf hv QF.w0 w054 w00
    · unfold mX8_thing; simp only [bd_q, jp_q, ob_q, on_q, if_true, if_false, Bool.false_eq_true, Bool.true_eq_false, Bool.not_true, Bool.not_false, pr99, pr9, pr8, cReqS h, cReqT h, cReqQ h, cReqL h, cReqB, cReq0, cReq1, cTenthB, cAskB, cFitB, xqz, xq1, xq2, xq3, pl2, pl3, pl4, pl5, pl14, pl40, pl50, pl100, pl999, pe3, pe11, pe30, pe40, pe300, bI_if, bI_0, b1, b2, b3, b4, ck_nI hs6 (show 6 < 2 ^ 31 by decide), a0, r2.2.2.2.2.1, in0 _ (show sT (pC p s) < 2 ^ 31 by omega), pc1, show (nI 4 = 0) = False by decide, show (nI 4 = 1) = False by decide, show (nI 4 = 2) = False by decide, show (nI 4 = 3) = False by decide, show (nI 4 = 4) = True by decide, cPl_in s2 ht hτ, ck_nI (show t < 8 by omega) (show 8 < 2 ^ 31 by decide), s2.2.2.2.1 t ht]
    · show mX9_thing u (nI s) (nI t) (nI τ) (nI 4) = _
      unfold mX9_thing; simp only [bd_q, jp_q, ob_q, on_q, if_true, if_false, Bool.false_eq_true, Bool.true_eq_false, Bool.not_true, Bool.not_false, ir99, ir9, ir8, w0e, rIsS hw, rIsT hw, rIsQ hw, rIsL hw, rBad w00 _ (show (1 : Int32) ≠ 0 by decide), rBad w00 _ (show (2 : Int32) ≠ 0 by decide), rBad w00 _ (show (3 : Int32) ≠ 0 by decide), rBad1 w00 (show (1 : Int32) ≠ 0 by decide), rBad1 w00 (show (2 : Int32) ≠ 0 by decide), rBad1 w00 (show (3 : Int32) ≠ 0 by decide), rBad0 w00 (show (1 : Int32) ≠ 0 by decide), rBad0 w00 (show (2 : Int32) ≠ 0 by decide), rBad0 w00 (show (3 : Int32) ≠ 0 by decide), e10, in2, in3, in4, in5, in10, in14, in29, in39, in40, in50, in100, in299, in999, bI_nn, bI_0, b1, b2, b3, b4, ck_nI hs6 (show 6 < 2 ^ 31 by decide), a0, r2.2.2.2.2.1, in0 _ (show sT (pC p s) < 2 ^ 31 by omega), pc1, show (nI 4 = 0) = False by decide, show (nI 4 = 1) = False by decide, show (nI 4 = 2) = False by decide, show (nI 4 = 3) = False by decide, show (nI 4 = 4) = True by decide, n8, nI_add, ck_nI (show 8 * s + t < 48 by omega) (show 48 < 2 ^ 31 by decide), c2_1, e69]
  | 5, _ =>
    refine Step.ask h (v := bI (chgS (pC p s) (nI t) (nI τ))) (u1 := u) (u2 := w0 u) ?_ ?_ QF.rf hv QF.w0 w054 w00
    · unfold mX8_thing; simp only [bd_q, jp_q, ob_q, on_q, if_true, if_false, Bool.false_eq_true, Bool.true_eq_false, Bool.not_true, Bool.not_false, pr99, pr9, pr8, cReqS h, cReqT h, cReqQ h, cReqL h, cReqB, cReq0, cReq1, cTenthB, cAskB, cFitB, xqz, xq1, xq2, xq3, pl2, pl3, pl4, pl5, pl14, pl40, pl50, pl100, pl999, pe3, pe11, pe30, pe40, pe300, bI_if, bI_0, b1, b2, b3, b4, ck_nI hs6 (show 6 < 2 ^ 31 by decide), a0, r2.2.2.2.2.1, in0 _ (show sT (pC p s) < 2 ^ 31 by omega), pc1, show (nI 5 = 0) = False by decide, show (nI 5 = 1) = False by decide, show (nI 5 = 2) = False by decide, show (nI 5 = 3) = False by decide, show (nI 5 = 4) = False by decide, cPl_in s2 ht hτ, cTurn s2 (nI t) hτ]; cases chgS (pC p s) (nI t) (nI τ) <;> rfl
    · show mX9_thing u (nI s) (nI t) (nI τ) (nI 5) = _
      unfold mX9_thing; simp only [bd_q, jp_q, ob_q, on_q, if_true, if_false, Bool.false_eq_true, Bool.true_eq_false, Bool.not_true, Bool.not_false, ir99, ir9, ir8, w0e, rIsS hw, rIsT hw, rIsQ hw, rIsL hw, rBad w00 _ (show (1 : Int32) ≠ 0 by decide), rBad w00 _ (show (2 : Int32) ≠ 0 by decide), rBad w00 _ (show (3 : Int32) ≠ 0 by decide), rBad1 w00 (show (1 : Int32) ≠ 0 by decide), rBad1 w00 (show (2 : Int32) ≠ 0 by decide), rBad1 w00 (show (3 : Int32) ≠ 0 by decide), rBad0 w00 (show (1 : Int32) ≠ 0 by decide), rBad0 w00 (show (2 : Int32) ≠ 0 by decide), rBad0 w00 (show (3 : Int32) ≠ 0 by decide), e10, in2, in3, in4, in5, in10, in14, in29, in39, in40, in50, in100, in299, in999, bI_nn, bI_0, b1, b2, b3, b4, ck_nI hs6 (show 6 < 2 ^ 31 by decide), a0, r2.2.2.2.2.1, in0 _ (show sT (pC p s) < 2 ^ 31 by omega), pc1, show (nI 5 = 0) = False by decide, show (nI 5 = 1) = False by decide, show (nI 5 = 2) = False by decide, show (nI 5 = 3) = False by decide, show (nI 5 = 4) = False by decide, rChg r2]; cases chgS (pC p s) (nI t) (nI τ) <;> rfl
-- kept
set_option maxHeartbeats 2000000 in
theorem s_kept (x1 x2 : Int32) : Step [3, 1] (fun u => mX8_kept u x1 x2) (fun u => mX9_kept u x1 x2) := by
  intro u hI
  have ⟨p, h, hv⟩ := hI
  have hw := w0c h
  have n6 := h.1.1.1
  have t6 := h.1.1.2.1
  have q4 := h.1.1.2.2.1
  have n14 := h.2.2.2.2.2.1.2.1.1.1
  cases b1 : inB x1 (pNt p) with
  | false =>
    refine Step.bad hI (k := 3) (v := 0) (b := 0) (c := 1) ?_ ?_ (by decide)
    · unfold mX8_kept; simp only [bd_q, jp_q, ob_q, on_q, if_true, if_false, Bool.false_eq_true, Bool.true_eq_false, Bool.not_true, Bool.not_false, pr99, pr9, pr8, cReqS h, cReqT h, cReqQ h, cReqL h, cReqB, cReq0, cReq1, cTenthB, cAskB, cFitB, xqz, xq1, xq2, xq3, pl2, pl3, pl4, pl5, pl14, pl40, pl50, pl100, pl999, pe3, pe11, pe30, pe40, pe300, bI_if, bI_0, b1]
    · show mX9_kept u x1 x2 = _
      unfold mX9_kept; simp only [bd_q, jp_q, ob_q, on_q, if_true, if_false, Bool.false_eq_true, Bool.true_eq_false, Bool.not_true, Bool.not_false, ir99, ir9, ir8, w0e, rIsS hw, rIsT hw, rIsQ hw, rIsL hw, rBad w00 _ (show (1 : Int32) ≠ 0 by decide), rBad w00 _ (show (2 : Int32) ≠ 0 by decide), rBad w00 _ (show (3 : Int32) ≠ 0 by decide), rBad1 w00 (show (1 : Int32) ≠ 0 by decide), rBad1 w00 (show (2 : Int32) ≠ 0 by decide), rBad1 w00 (show (3 : Int32) ≠ 0 by decide), rBad0 w00 (show (1 : Int32) ≠ 0 by decide), rBad0 w00 (show (2 : Int32) ≠ 0 by decide), rBad0 w00 (show (3 : Int32) ≠ 0 by decide), e10, in2, in3, in4, in5, in10, in14, in29, in39, in40, in50, in100, in299, in999, bI_nn, bI_0, b1]
  | true =>
  obtain ⟨t, ht, rfl⟩ := inB_t (by omega) b1
  cases b2 : inB x2 5 with
  | false =>
    refine Step.bad hI (k := 1) (v := 0) (b := 0) (c := 2) ?_ ?_ (by decide)
    · unfold mX8_kept; simp only [bd_q, jp_q, ob_q, on_q, if_true, if_false, Bool.false_eq_true, Bool.true_eq_false, Bool.not_true, Bool.not_false, pr99, pr9, pr8, cReqS h, cReqT h, cReqQ h, cReqL h, cReqB, cReq0, cReq1, cTenthB, cAskB, cFitB, xqz, xq1, xq2, xq3, pl2, pl3, pl4, pl5, pl14, pl40, pl50, pl100, pl999, pe3, pe11, pe30, pe40, pe300, bI_if, bI_0, b1, b2]
    · show mX9_kept u (nI t) x2 = _
      unfold mX9_kept; simp only [bd_q, jp_q, ob_q, on_q, if_true, if_false, Bool.false_eq_true, Bool.true_eq_false, Bool.not_true, Bool.not_false, ir99, ir9, ir8, w0e, rIsS hw, rIsT hw, rIsQ hw, rIsL hw, rBad w00 _ (show (1 : Int32) ≠ 0 by decide), rBad w00 _ (show (2 : Int32) ≠ 0 by decide), rBad w00 _ (show (3 : Int32) ≠ 0 by decide), rBad1 w00 (show (1 : Int32) ≠ 0 by decide), rBad1 w00 (show (2 : Int32) ≠ 0 by decide), rBad1 w00 (show (3 : Int32) ≠ 0 by decide), rBad0 w00 (show (1 : Int32) ≠ 0 by decide), rBad0 w00 (show (2 : Int32) ≠ 0 by decide), rBad0 w00 (show (3 : Int32) ≠ 0 by decide), e10, in2, in3, in4, in5, in10, in14, in29, in39, in40, in50, in100, in299, in999, bI_nn, bI_0, b1, b2]
  | true =>
  obtain ⟨j, hj, rfl⟩ := inB_t (by decide) b2
  obtain ⟨k1, k2⟩ := h.2.2.2.1 t ht
  obtain ⟨k3, -⟩ := hw.2.2.2.1 t ht
  match j, hj with
  | 0, _ =>
    refine Step.ask h (v := pT p t 0) (u1 := u) (u2 := w0 u) ?_ ?_ QF.rf hv QF.w0 w054 w00
    · unfold mX8_kept; simp only [bd_q, jp_q, ob_q, on_q, if_true, if_false, Bool.false_eq_true, Bool.true_eq_false, Bool.not_true, Bool.not_false, pr99, pr9, pr8, cReqS h, cReqT h, cReqQ h, cReqL h, cReqB, cReq0, cReq1, cTenthB, cAskB, cFitB, xqz, xq1, xq2, xq3, pl2, pl3, pl4, pl5, pl14, pl40, pl50, pl100, pl999, pe3, pe11, pe30, pe40, pe300, bI_if, bI_0, b1, b2, show (nI 0 = 0) = True by decide, show (nI 0 = 1) = False by decide, show (nI 0 = 2) = False by decide, show (nI 0 = 3) = False by decide, ck_nI (show t < 6 by omega) (show 6 < 2 ^ 31 by decide), k2 0 (by decide)]
    · show mX9_kept u (nI t) (nI 0) = _
      unfold mX9_kept; simp only [bd_q, jp_q, ob_q, on_q, if_true, if_false, Bool.false_eq_true, Bool.true_eq_false, Bool.not_true, Bool.not_false, ir99, ir9, ir8, w0e, rIsS hw, rIsT hw, rIsQ hw, rIsL hw, rBad w00 _ (show (1 : Int32) ≠ 0 by decide), rBad w00 _ (show (2 : Int32) ≠ 0 by decide), rBad w00 _ (show (3 : Int32) ≠ 0 by decide), rBad1 w00 (show (1 : Int32) ≠ 0 by decide), rBad1 w00 (show (2 : Int32) ≠ 0 by decide), rBad1 w00 (show (3 : Int32) ≠ 0 by decide), rBad0 w00 (show (1 : Int32) ≠ 0 by decide), rBad0 w00 (show (2 : Int32) ≠ 0 by decide), rBad0 w00 (show (3 : Int32) ≠ 0 by decide), e10, in2, in3, in4, in5, in10, in14, in29, in39, in40, in50, in100, in299, in999, bI_nn, bI_0, b1, b2, ck_nI (show t < 6 by omega) (show 6 < 2 ^ 31 by decide), ck_nI (show 0 < 5 by decide) (show 5 < 2 ^ 31 by decide), k3]
  | 1, _ =>
    refine Step.ask h (v := pT p t 1) (u1 := u) (u2 := w0 u) ?_ ?_ QF.rf hv QF.w0 w054 w00
    · unfold mX8_kept; simp only [bd_q, jp_q, ob_q, on_q, if_true, if_false, Bool.false_eq_true, Bool.true_eq_false, Bool.not_true, Bool.not_false, pr99, pr9, pr8, cReqS h, cReqT h, cReqQ h, cReqL h, cReqB, cReq0, cReq1, cTenthB, cAskB, cFitB, xqz, xq1, xq2, xq3, pl2, pl3, pl4, pl5, pl14, pl40, pl50, pl100, pl999, pe3, pe11, pe30, pe40, pe300, bI_if, bI_0, b1, b2, show (nI 1 = 0) = False by decide, show (nI 1 = 1) = True by decide, show (nI 1 = 2) = False by decide, show (nI 1 = 3) = False by decide, ck_nI (show t < 6 by omega) (show 6 < 2 ^ 31 by decide), k2 1 (by decide)]
    · show mX9_kept u (nI t) (nI 1) = _
      unfold mX9_kept; simp only [bd_q, jp_q, ob_q, on_q, if_true, if_false, Bool.false_eq_true, Bool.true_eq_false, Bool.not_true, Bool.not_false, ir99, ir9, ir8, w0e, rIsS hw, rIsT hw, rIsQ hw, rIsL hw, rBad w00 _ (show (1 : Int32) ≠ 0 by decide), rBad w00 _ (show (2 : Int32) ≠ 0 by decide), rBad w00 _ (show (3 : Int32) ≠ 0 by decide), rBad1 w00 (show (1 : Int32) ≠ 0 by decide), rBad1 w00 (show (2 : Int32) ≠ 0 by decide), rBad1 w00 (show (3 : Int32) ≠ 0 by decide), rBad0 w00 (show (1 : Int32) ≠ 0 by decide), rBad0 w00 (show (2 : Int32) ≠ 0 by decide), rBad0 w00 (show (3 : Int32) ≠ 0 by decide), e10, in2, in3, in4, in5, in10, in14, in29, in39, in40, in50, in100, in299, in999, bI_nn, bI_0, b1, b2, ck_nI (show t < 6 by omega) (show 6 < 2 ^ 31 by decide), ck_nI (show 1 < 5 by decide) (show 5 < 2 ^ 31 by decide), k3]
  | 2, _ =>
    refine Step.ask h (v := pT p t 2) (u1 := u) (u2 := w0 u) ?_ ?_ QF.rf hv QF.w0 w054 w00
    · unfold mX8_kept; simp only [bd_q, jp_q, ob_q, on_q, if_true, if_false, Bool.false_eq_true, Bool.true_eq_false, Bool.not_true, Bool.not_false, pr99, pr9, pr8, cReqS h, cReqT h, cReqQ h, cReqL h, cReqB, cReq0, cReq1, cTenthB, cAskB, cFitB, xqz, xq1, xq2, xq3, pl2, pl3, pl4, pl5, pl14, pl40, pl50, pl100, pl999, pe3, pe11, pe30, pe40, pe300, bI_if, bI_0, b1, b2, show (nI 2 = 0) = False by decide, show (nI 2 = 1) = False by decide, show (nI 2 = 2) = True by decide, show (nI 2 = 3) = False by decide, ck_nI (show t < 6 by omega) (show 6 < 2 ^ 31 by decide), k2 2 (by decide)]
    · show mX9_kept u (nI t) (nI 2) = _
      unfold mX9_kept; simp only [bd_q, jp_q, ob_q, on_q, if_true, if_false, Bool.false_eq_true, Bool.true_eq_false, Bool.not_true, Bool.not_false, ir99, ir9, ir8, w0e, rIsS hw, rIsT hw, rIsQ hw, rIsL hw, rBad w00 _ (show (1 : Int32) ≠ 0 by decide), rBad w00 _ (show (2 : Int32) ≠ 0 by decide), rBad w00 _ (show (3 : Int32) ≠ 0 by decide), rBad1 w00 (show (1 : Int32) ≠ 0 by decide), rBad1 w00 (show (2 : Int32) ≠ 0 by decide), rBad1 w00 (show (3 : Int32) ≠ 0 by decide), rBad0 w00 (show (1 : Int32) ≠ 0 by decide), rBad0 w00 (show (2 : Int32) ≠ 0 by decide), rBad0 w00 (show (3 : Int32) ≠ 0 by decide), e10, in2, in3, in4, in5, in10, in14, in29, in39, in40, in50, in100, in299, in999, bI_nn, bI_0, b1, b2, ck_nI (show t < 6 by omega) (show 6 < 2 ^ 31 by decide), ck_nI (show 2 < 5 by decide) (show 5 < 2 ^ 31 by decide), k3]
  | 3, _ =>
    refine Step.ask h (v := pT p t 3) (u1 := u) (u2 := w0 u) ?_ ?_ QF.rf hv QF.w0 w054 w00
    · unfold mX8_kept; simp only [bd_q, jp_q, ob_q, on_q, if_true, if_false, Bool.false_eq_true, Bool.true_eq_false, Bool.not_true, Bool.not_false, pr99, pr9, pr8, cReqS h, cReqT h, cReqQ h, cReqL h, cReqB, cReq0, cReq1, cTenthB, cAskB, cFitB, xqz, xq1, xq2, xq3, pl2, pl3, pl4, pl5, pl14, pl40, pl50, pl100, pl999, pe3, pe11, pe30, pe40, pe300, bI_if, bI_0, b1, b2, show (nI 3 = 0) = False by decide, show (nI 3 = 1) = False by decide, show (nI 3 = 2) = False by decide, show (nI 3 = 3) = True by decide, ck_nI (show t < 6 by omega) (show 6 < 2 ^ 31 by decide), k2 3 (by decide)]
    · show mX9_kept u (nI t) (nI 3) = _
      unfold mX9_kept; simp only [bd_q, jp_q, ob_q, on_q, if_true, if_false, Bool.false_eq_true, Bool.true_eq_false, Bool.not_true, Bool.not_false, ir99, ir9, ir8, w0e, rIsS hw, rIsT hw, rIsQ hw, rIsL hw, rBad w00 _ (show (1 : Int32) ≠ 0 by decide), rBad w00 _ (show (2 : Int32) ≠ 0 by decide), rBad w00 _ (show (3 : Int32) ≠ 0 by decide), rBad1 w00 (show (1 : Int32) ≠ 0 by decide), rBad1 w00 (show (2 : Int32) ≠ 0 by decide), rBad1 w00 (show (3 : Int32) ≠ 0 by decide), rBad0 w00 (show (1 : Int32) ≠ 0 by decide), rBad0 w00 (show (2 : Int32) ≠ 0 by decide), rBad0 w00 (show (3 : Int32) ≠ 0 by decide), e10, in2, in3, in4, in5, in10, in14, in29, in39, in40, in50, in100, in299, in999, bI_nn, bI_0, b1, b2, ck_nI (show t < 6 by omega) (show 6 < 2 ^ 31 by decide), ck_nI (show 3 < 5 by decide) (show 5 < 2 ^ 31 by decide), k3]
  | 4, _ =>
    refine Step.ask h (v := pT p t 4) (u1 := u) (u2 := w0 u) ?_ ?_ QF.rf hv QF.w0 w054 w00
    · unfold mX8_kept; simp only [bd_q, jp_q, ob_q, on_q, if_true, if_false, Bool.false_eq_true, Bool.true_eq_false, Bool.not_true, Bool.not_false, pr99, pr9, pr8, cReqS h, cReqT h, cReqQ h, cReqL h, cReqB, cReq0, cReq1, cTenthB, cAskB, cFitB, xqz, xq1, xq2, xq3, pl2, pl3, pl4, pl5, pl14, pl40, pl50, pl100, pl999, pe3, pe11, pe30, pe40, pe300, bI_if, bI_0, b1, b2, show (nI 4 = 0) = False by decide, show (nI 4 = 1) = False by decide, show (nI 4 = 2) = False by decide, show (nI 4 = 3) = False by decide, ck_nI (show t < 6 by omega) (show 6 < 2 ^ 31 by decide), k2 4 (by decide)]
    · show mX9_kept u (nI t) (nI 4) = _
      unfold mX9_kept; simp only [bd_q, jp_q, ob_q, on_q, if_true, if_false, Bool.false_eq_true, Bool.true_eq_false, Bool.not_true, Bool.not_false, ir99, ir9, ir8, w0e, rIsS hw, rIsT hw, rIsQ hw, rIsL hw, rBad w00 _ (show (1 : Int32) ≠ 0 by decide), rBad w00 _ (show (2 : Int32) ≠ 0 by decide), rBad w00 _ (show (3 : Int32) ≠ 0 by decide), rBad1 w00 (show (1 : Int32) ≠ 0 by decide), rBad1 w00 (show (2 : Int32) ≠ 0 by decide), rBad1 w00 (show (3 : Int32) ≠ 0 by decide), rBad0 w00 (show (1 : Int32) ≠ 0 by decide), rBad0 w00 (show (2 : Int32) ≠ 0 by decide), rBad0 w00 (show (3 : Int32) ≠ 0 by decide), e10, in2, in3, in4, in5, in10, in14, in29, in39, in40, in50, in100, in299, in999, bI_nn, bI_0, b1, b2, ck_nI (show t < 6 by omega) (show 6 < 2 ^ 31 by decide), ck_nI (show 4 < 5 by decide) (show 5 < 2 ^ 31 by decide), k3]
-- throwsOf
set_option maxHeartbeats 2000000 in
theorem s_throwsOf (x1 x2 : Int32) : Step [2, 3] (fun u => mX8_throwsOf u x1 x2) (fun u => mX9_throwsOf u x1 x2) := by
  intro u hI
  have ⟨p, h, hv⟩ := hI
  have hw := w0c h
  have n6 := h.1.1.1
  have t6 := h.1.1.2.1
  have q4 := h.1.1.2.2.1
  have n14 := h.2.2.2.2.2.1.2.1.1.1
  cases b1 : inB x1 (pNs p) with
  | false =>
    refine Step.bad hI (k := 2) (v := 0) (b := 0) (c := 1) ?_ ?_ (by decide)
    · unfold mX8_throwsOf; simp only [bd_q, jp_q, ob_q, on_q, if_true, if_false, Bool.false_eq_true, Bool.true_eq_false, Bool.not_true, Bool.not_false, pr99, pr9, pr8, cReqS h, cReqT h, cReqQ h, cReqL h, cReqB, cReq0, cReq1, cTenthB, cAskB, cFitB, xqz, xq1, xq2, xq3, pl2, pl3, pl4, pl5, pl14, pl40, pl50, pl100, pl999, pe3, pe11, pe30, pe40, pe300, bI_if, bI_0, b1]
    · show mX9_throwsOf u x1 x2 = _
      unfold mX9_throwsOf; simp only [bd_q, jp_q, ob_q, on_q, if_true, if_false, Bool.false_eq_true, Bool.true_eq_false, Bool.not_true, Bool.not_false, ir99, ir9, ir8, w0e, rIsS hw, rIsT hw, rIsQ hw, rIsL hw, rBad w00 _ (show (1 : Int32) ≠ 0 by decide), rBad w00 _ (show (2 : Int32) ≠ 0 by decide), rBad w00 _ (show (3 : Int32) ≠ 0 by decide), rBad1 w00 (show (1 : Int32) ≠ 0 by decide), rBad1 w00 (show (2 : Int32) ≠ 0 by decide), rBad1 w00 (show (3 : Int32) ≠ 0 by decide), rBad0 w00 (show (1 : Int32) ≠ 0 by decide), rBad0 w00 (show (2 : Int32) ≠ 0 by decide), rBad0 w00 (show (3 : Int32) ≠ 0 by decide), e10, in2, in3, in4, in5, in10, in14, in29, in39, in40, in50, in100, in299, in999, bI_nn, bI_0, b1]
  | true =>
  obtain ⟨s, hs, rfl⟩ := inB_t (by omega) b1
  have hs6 : s < 6 := by omega
  obtain ⟨r, s2⟩ := h.2.2.1 s hs
  obtain ⟨r2, -⟩ := hw.2.2.1 s hs
  have hc := s2.1.2.1
  have hT8 := s2.1.2.2.2
  have s3 := s2
  obtain ⟨-, ⟨a0, a1, a2, a3, a4, a5, a6⟩, -⟩ := s3
  cases b2 : inB x2 (pNt p) with
  | false =>
    refine Step.bad hI (k := 3) (v := 0) (b := 0) (c := 2) ?_ ?_ (by decide)
    · unfold mX8_throwsOf; simp only [bd_q, jp_q, ob_q, on_q, if_true, if_false, Bool.false_eq_true, Bool.true_eq_false, Bool.not_true, Bool.not_false, pr99, pr9, pr8, cReqS h, cReqT h, cReqQ h, cReqL h, cReqB, cReq0, cReq1, cTenthB, cAskB, cFitB, xqz, xq1, xq2, xq3, pl2, pl3, pl4, pl5, pl14, pl40, pl50, pl100, pl999, pe3, pe11, pe30, pe40, pe300, bI_if, bI_0, b1, b2]
    · show mX9_throwsOf u (nI s) x2 = _
      unfold mX9_throwsOf; simp only [bd_q, jp_q, ob_q, on_q, if_true, if_false, Bool.false_eq_true, Bool.true_eq_false, Bool.not_true, Bool.not_false, ir99, ir9, ir8, w0e, rIsS hw, rIsT hw, rIsQ hw, rIsL hw, rBad w00 _ (show (1 : Int32) ≠ 0 by decide), rBad w00 _ (show (2 : Int32) ≠ 0 by decide), rBad w00 _ (show (3 : Int32) ≠ 0 by decide), rBad1 w00 (show (1 : Int32) ≠ 0 by decide), rBad1 w00 (show (2 : Int32) ≠ 0 by decide), rBad1 w00 (show (3 : Int32) ≠ 0 by decide), rBad0 w00 (show (1 : Int32) ≠ 0 by decide), rBad0 w00 (show (2 : Int32) ≠ 0 by decide), rBad0 w00 (show (3 : Int32) ≠ 0 by decide), e10, in2, in3, in4, in5, in10, in14, in29, in39, in40, in50, in100, in299, in999, bI_nn, bI_0, b1, b2]
  | true =>
  obtain ⟨t, ht, rfl⟩ := inB_t (by omega) b2
  obtain ⟨k1, k2⟩ := h.2.2.2.1 t ht
  obtain ⟨k3, -⟩ := hw.2.2.2.1 t ht
  have e := rThr r2 hc (show t < 6 by omega)
  rw [k3 2] at e
  refine Step.ask h (v := thrS (pC p s) (pT p t 2)) (u1 := u) (u2 := w0 u) ?_ ?_ QF.rf hv QF.w0 w054 w00
  · unfold mX8_throwsOf; simp only [bd_q, jp_q, ob_q, on_q, if_true, if_false, Bool.false_eq_true, Bool.true_eq_false, Bool.not_true, Bool.not_false, pr99, pr9, pr8, cReqS h, cReqT h, cReqQ h, cReqL h, cReqB, cReq0, cReq1, cTenthB, cAskB, cFitB, xqz, xq1, xq2, xq3, pl2, pl3, pl4, pl5, pl14, pl40, pl50, pl100, pl999, pe3, pe11, pe30, pe40, pe300, bI_if, bI_0, b1, b2, ck_nI hs6 (show 6 < 2 ^ 31 by decide), ck_nI (show t < 6 by omega) (show 6 < 2 ^ 31 by decide), k2 2 (by decide), cThrows s2]
  · show mX9_throwsOf u (nI s) (nI t) = _
    unfold mX9_throwsOf; simp only [bd_q, jp_q, ob_q, on_q, if_true, if_false, Bool.false_eq_true, Bool.true_eq_false, Bool.not_true, Bool.not_false, ir99, ir9, ir8, w0e, rIsS hw, rIsT hw, rIsQ hw, rIsL hw, rBad w00 _ (show (1 : Int32) ≠ 0 by decide), rBad w00 _ (show (2 : Int32) ≠ 0 by decide), rBad w00 _ (show (3 : Int32) ≠ 0 by decide), rBad1 w00 (show (1 : Int32) ≠ 0 by decide), rBad1 w00 (show (2 : Int32) ≠ 0 by decide), rBad1 w00 (show (3 : Int32) ≠ 0 by decide), rBad0 w00 (show (1 : Int32) ≠ 0 by decide), rBad0 w00 (show (2 : Int32) ≠ 0 by decide), rBad0 w00 (show (3 : Int32) ≠ 0 by decide), e10, in2, in3, in4, in5, in10, in14, in29, in39, in40, in50, in100, in299, in999, bI_nn, bI_0, b1, b2, e]
-- eye
set_option maxHeartbeats 2000000 in
theorem s_eye (x1 x2 : Int32) : Step [1] (fun u => mX8_eye u x1 x2) (fun u => mX9_eye u x1 x2) := by
  intro u hI
  have ⟨p, h, hv⟩ := hI
  have hw := w0c h
  have n6 := h.1.1.1
  have t6 := h.1.1.2.1
  have q4 := h.1.1.2.2.1
  have n14 := h.2.2.2.2.2.1.2.1.1.1
  cases b1 : inB x1 (pN p) with
  | false =>
    refine Step.bad hI (k := 1) (v := 0) (b := 0) (c := 1) ?_ ?_ (by decide)
    · unfold mX8_eye; simp only [bd_q, jp_q, ob_q, on_q, if_true, if_false, Bool.false_eq_true, Bool.true_eq_false, Bool.not_true, Bool.not_false, pr99, pr9, pr8, cReqS h, cReqT h, cReqQ h, cReqL h, cReqB, cReq0, cReq1, cTenthB, cAskB, cFitB, xqz, xq1, xq2, xq3, pl2, pl3, pl4, pl5, pl14, pl40, pl50, pl100, pl999, pe3, pe11, pe30, pe40, pe300, bI_if, bI_0, b1]
    · show mX9_eye u x1 x2 = _
      unfold mX9_eye; simp only [bd_q, jp_q, ob_q, on_q, if_true, if_false, Bool.false_eq_true, Bool.true_eq_false, Bool.not_true, Bool.not_false, ir99, ir9, ir8, w0e, rIsS hw, rIsT hw, rIsQ hw, rIsL hw, rBad w00 _ (show (1 : Int32) ≠ 0 by decide), rBad w00 _ (show (2 : Int32) ≠ 0 by decide), rBad w00 _ (show (3 : Int32) ≠ 0 by decide), rBad1 w00 (show (1 : Int32) ≠ 0 by decide), rBad1 w00 (show (2 : Int32) ≠ 0 by decide), rBad1 w00 (show (3 : Int32) ≠ 0 by decide), rBad0 w00 (show (1 : Int32) ≠ 0 by decide), rBad0 w00 (show (2 : Int32) ≠ 0 by decide), rBad0 w00 (show (3 : Int32) ≠ 0 by decide), e10, in2, in3, in4, in5, in10, in14, in29, in39, in40, in50, in100, in299, in999, bI_nn, bI_0, b1]
  | true =>
  obtain ⟨l, hl, rfl⟩ := inB_t (by omega) b1
  cases b2 : inB x2 300 with
  | false =>
    refine Step.bad hI (k := 1) (v := 0) (b := 0) (c := 1) ?_ ?_ (by decide)
    · unfold mX8_eye; simp only [bd_q, jp_q, ob_q, on_q, if_true, if_false, Bool.false_eq_true, Bool.true_eq_false, Bool.not_true, Bool.not_false, pr99, pr9, pr8, cReqS h, cReqT h, cReqQ h, cReqL h, cReqB, cReq0, cReq1, cTenthB, cAskB, cFitB, xqz, xq1, xq2, xq3, pl2, pl3, pl4, pl5, pl14, pl40, pl50, pl100, pl999, pe3, pe11, pe30, pe40, pe300, bI_if, bI_0, b1, b2]
    · show mX9_eye u (nI l) x2 = _
      unfold mX9_eye; simp only [bd_q, jp_q, ob_q, on_q, if_true, if_false, Bool.false_eq_true, Bool.true_eq_false, Bool.not_true, Bool.not_false, ir99, ir9, ir8, w0e, rIsS hw, rIsT hw, rIsQ hw, rIsL hw, rBad w00 _ (show (1 : Int32) ≠ 0 by decide), rBad w00 _ (show (2 : Int32) ≠ 0 by decide), rBad w00 _ (show (3 : Int32) ≠ 0 by decide), rBad1 w00 (show (1 : Int32) ≠ 0 by decide), rBad1 w00 (show (2 : Int32) ≠ 0 by decide), rBad1 w00 (show (3 : Int32) ≠ 0 by decide), rBad0 w00 (show (1 : Int32) ≠ 0 by decide), rBad0 w00 (show (2 : Int32) ≠ 0 by decide), rBad0 w00 (show (3 : Int32) ≠ 0 by decide), e10, in2, in3, in4, in5, in10, in14, in29, in39, in40, in50, in100, in299, in999, bI_nn, bI_0, b1, b2]
  | true =>
  obtain ⟨τ, hτ, rfl⟩ := inB_t (by decide) b2
  obtain ⟨u1, e1, f1, hV, -, -⟩ := h.look hl hτ
  have q1 := f1.qf (by decide)
  have hv1 : IVs p u1 := q1.s (f1.m1 (by decide) (by decide)) hv
  have h1 := q1.c h
  have hw1 := w0c h1
  have hy1 := hw1.ly hl
  have q2 : QF u (w0 u1) := q1.tr QF.w0
  have lo1 := q2.lo (p := p) 0 l
  rw [lo1.1, lo1.2.1, q2.2.1, lo1.2.2.1] at hy1
  refine Step.ask h (v := loE p u l (nI τ)) (u1 := u1) (u2 := w0 u1) ?_ ?_ q1 hv1 QF.w0 w054 w00
  · unfold mX8_eye; simp only [bd_q, jp_q, ob_q, on_q, if_true, if_false, Bool.false_eq_true, Bool.true_eq_false, Bool.not_true, Bool.not_false, pr99, pr9, pr8, cReqS h, cReqT h, cReqQ h, cReqL h, cReqB, cReq0, cReq1, cTenthB, cAskB, cFitB, xqz, xq1, xq2, xq3, pl2, pl3, pl4, pl5, pl14, pl40, pl50, pl100, pl999, pe3, pe11, pe30, pe40, pe300, bI_if, bI_0, b1, b2, e1, ck_nI hτ (show 300 < 2 ^ 31 by decide), (hV.2.2.2.2 τ (Nat.le_refl τ)).1]
  · show mX9_eye u1 (nI l) (nI τ) = _
    have hw := hw1
    unfold mX9_eye; simp only [bd_q, jp_q, ob_q, on_q, if_true, if_false, Bool.false_eq_true, Bool.true_eq_false, Bool.not_true, Bool.not_false, ir99, ir9, ir8, w0e, rIsS hw, rIsT hw, rIsQ hw, rIsL hw, rBad w00 _ (show (1 : Int32) ≠ 0 by decide), rBad w00 _ (show (2 : Int32) ≠ 0 by decide), rBad w00 _ (show (3 : Int32) ≠ 0 by decide), rBad1 w00 (show (1 : Int32) ≠ 0 by decide), rBad1 w00 (show (2 : Int32) ≠ 0 by decide), rBad1 w00 (show (3 : Int32) ≠ 0 by decide), rBad0 w00 (show (1 : Int32) ≠ 0 by decide), rBad0 w00 (show (2 : Int32) ≠ 0 by decide), rBad0 w00 (show (3 : Int32) ≠ 0 by decide), e10, in2, in3, in4, in5, in10, in14, in29, in39, in40, in50, in100, in299, in999, bI_nn, bI_0, b1, b2, rEye hy1.1]
