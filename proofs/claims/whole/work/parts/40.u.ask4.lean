/-- the tenth in which a looker sees the change by a law -/
def chJ (p : IP) (u : HS) (q l : Nat) : Int32 := if trnS (pC p (loS u l)) = -1 then -1 else (fsS (pW p q) (fun τ => nmS (pC p (loS u l)) (pT p (loT u l)) (lkF u l 2) (loE p u l) 0 0 1 (trnS (pC p (loS u l))) τ) (hrS (pC p (loS u l)) (loE p u l) (trnS (pC p (loS u l)))) true 0 ((endS (pC p (loS u l))).toNatClampNeg + 1) 0 (0, 0)).1.elim (-1) nI
theorem QF.ch {p : IP} {u v : HS} (hF : QF u v) (q l : Nat) : chJ p v q l = chJ p u q l := by
  have h := hF.lo (p := p) q l
  unfold chJ
  rw [h.1, h.2.1, h.2.2.1, hF.2.1]
theorem IV.chSeen {p : IP} {u : HS} (h : IVc p u) (hv : IVs p u) {l q : Nat} (hl : l < pN p) (hq : q < pNl p) : ∃ u', mX8_changeSeen u (nI q) (nI l) = some (chJ p u q l, u') ∧ QF u u' ∧ IVs p u' := by
  obtain ⟨l14, ls, lt, -⟩ := h.lk hl
  obtain ⟨lr, lc, lw⟩ := h.law hq
  have q4 := h.1.1.2.2.1
  have s2 := (h.2.2.1 _ ls).2
  have hc := s2.1.2.1
  obtain ⟨e, he3, he⟩ := endS_nI hc
  have hem : (endS (pC p (loS u l))).toNatClampNeg = e := by rw [he, nI_clamp (by omega)]
  have a5 := s2.2.1.2.2.2.2.2.1
  have a6 := s2.2.1.2.2.2.2.2.2
  unfold mX8_changeSeen chJ
  rw [h.sceneFor hl, hem]
  simp only [ob_q, a5, a6, he]
  rcases trnS_nI hc with z | ⟨t, ht, et⟩
  · rw [if_pos z, if_pos z]
    exact ⟨u, rfl, QF.rf, hv⟩
  · have hne : trnS (pC p (loS u l)) ≠ -1 := by rw [et]; exact nI_m1 (by have := s2.1.2.2.2; omega)
    rw [if_neg hne, if_neg hne]
    obtain ⟨u1, e1, f1, hV, v43, v45⟩ := h.look hl he3
    have q1 := f1.qf (by decide)
    rw [e1]
    unfold mX4_heedChangesAlone
    simp only [ob_q, bd_q]
    have hF2 : Fvw [4, 7, 46, 47] u (wI u1 4 0 5 1) := f1.sI (by decide) (by decide)
    have hV2 : VX (wI u1 4 0 5 1) (loS u l) (pC p (loS u l)) (loT u l) (pT p (loT u l)) (lkF u l 2) e (loE p u l) (-1) 0 1 := by
      obtain ⟨v1, v2, v3, v4, v5⟩ := hV
      refine ⟨v1, v2.eq ?_ ?_ ?_ ?_ ?_ ?_ (fun _ _ => rfl), ?_, ?_, ?_⟩
      · rw [gI_r (by decide)]
      · rw [gI_r (by decide)]
      · rw [gI_r (by decide)]
      · rw [gI_r (by decide)]
      · rw [gI_r (by decide)]
      · rw [gI_r (by decide)]
      · rw [gI_r (by decide)]; exact v3
      · rw [gI_r (by decide)]; exact v4
      · rw [gI_r (by decide)]; exact v5
    have t10 : gI (wI u1 4 0 5 1) 3 (loS u l) 10 = nI t := by rw [gI_r (by decide), hV.2.1.2.1.2.2.2.2.2.1, et]
    rw [ck_nI (show q < 4 by omega) (by decide)]
    simp only [ob_q, t10]
    obtain ⟨u2, e2, g2, -⟩ := cFirst (noise := 0) (chg := true) hV2 (lc.fvw hF2) lw (by decide) z3 ht (Or.inl ⟨by rw [gI_k (by decide)]; exact v43, rfl⟩) (by rw [gI_eq]; rfl) (fun _ => Int32.le_refl 0) he
    rw [fsS_seed (Int32.le_refl 0) (e + 1) 0 0 (gI (wI u1 4 0 5 1) 4 0 4) 0] at e2
    rw [e2]
    simp only [ob_q]
    have q3 := (hF2.qf (by decide)).tr g2.qf
    refine ⟨u2, ?_, q3, q3.s (g2.g54.trans (hF2.m1 (by decide) (by decide))) hv⟩
    rw [et]
theorem IV.chOf {p : IP} {u : HS} (h : IVc p u) {l q : Nat} (hl : l < pN p) (hq : q < pNl p) : ∃ u', mX9_changeOf u (nI q) (nI l) = some (chJ p u q l, u') ∧ Fr [78, 79] [41, 42] u u' := by
  obtain ⟨l14, ls, lt, -⟩ := h.lk hl
  obtain ⟨lr, lc, lw⟩ := h.law hq
  have s2 := (h.2.2.1 _ ls).2
  have hc := s2.1.2.1
  have hy := h.ly hl
  obtain ⟨m38, m39, m40⟩ := h.2.2.2.2.2.2.2
  obtain ⟨e, he3, he⟩ := endS_nI hc
  have hem : (endS (pC p (loS u l))).toNatClampNeg = e := by rw [he, nI_clamp (by omega)]
  obtain ⟨s', hs', e81⟩ := hy.1.rs
  unfold mX9_changeOf chJ
  simp only [ck_nI (show l < 15 by omega) (show 15 < 2 ^ 31 by decide), c8_0, ob_q, e81, rTrn hs', hem]
  rcases trnS_nI hc with z | ⟨t, ht, et⟩
  · rw [if_pos z, if_pos z]
    exact ⟨u, rfl, Fr.rf⟩
  · have hne : trnS (pC p (loS u l)) ≠ -1 := by rw [et]; exact nI_m1 (by have := s2.1.2.2.2; omega)
    rw [if_neg hne, if_neg hne, et]
    obtain ⟨u1, e1, f1, g1, -⟩ := rGoes hy hc lr lw (by rw [m40]; decide) ht 0 0 (by decide) true he he3
    rw [show bI true = 1 from rfl] at e1
    rw [e1]
    simp only [ob_q]
    rw [m38, m39, m40, List.range_eq_range', go_fs (fun _ => Int32.le_refl 0) (e + 1) 0 0 0 (by omega)] at g1
    exact ⟨u1, by rw [g1], f1⟩
-- change
set_option maxHeartbeats 2000000 in
theorem s_change (x1 x2 : Int32) : Step [3, 1] (fun u => mX8_change u x1 x2) (fun u => mX9_change u x1 x2) := by
  intro u hI
  have ⟨p, h, hv⟩ := hI
  have hw := w0c h
  have n6 := h.1.1.1
  have t6 := h.1.1.2.1
  have q4 := h.1.1.2.2.1
  have n14 := h.2.2.2.2.2.1.2.1.1.1
  cases b1 : inB x1 (pNl p) with
  | false =>
    refine Step.bad hI (k := 3) (v := 0) (b := 0) (c := 1) ?_ ?_ (by decide)
    · unfold mX8_change; simp only [bd_q, jp_q, ob_q, on_q, if_true, if_false, Bool.false_eq_true, Bool.true_eq_false, Bool.not_true, Bool.not_false, pr99, pr9, pr8, cReqS h, cReqT h, cReqQ h, cReqL h, cReqB, cReq0, cReq1, cTenthB, cAskB, cFitB, xqz, xq1, xq2, xq3, pl2, pl3, pl4, pl5, pl14, pl40, pl50, pl100, pl999, pe3, pe11, pe30, pe40, pe300, bI_if, bI_0, b1]
    · show mX9_change u x1 x2 = _
      unfold mX9_change; simp only [bd_q, jp_q, ob_q, on_q, if_true, if_false, Bool.false_eq_true, Bool.true_eq_false, Bool.not_true, Bool.not_false, ir99, ir9, ir8, w0e, rIsS hw, rIsT hw, rIsQ hw, rIsL hw, rBad w00 _ (show (1 : Int32) ≠ 0 by decide), rBad w00 _ (show (2 : Int32) ≠ 0 by decide), rBad w00 _ (show (3 : Int32) ≠ 0 by decide), rBad1 w00 (show (1 : Int32) ≠ 0 by decide), rBad1 w00 (show (2 : Int32) ≠ 0 by decide), rBad1 w00 (show (3 : Int32) ≠ 0 by decide), rBad0 w00 (show (1 : Int32) ≠ 0 by decide), rBad0 w00 (show (2 : Int32) ≠ 0 by decide), rBad0 w00 (show (3 : Int32) ≠ 0 by decide), e10, in2, in3, in4, in5, in10, in14, in29, in39, in40, in50, in100, in299, in999, bI_nn, bI_0, b1]
  | true =>
  obtain ⟨q, hq, rfl⟩ := inB_t (by omega) b1
  obtain ⟨lr, lc, lw⟩ := h.law hq
  cases b2 : inB x2 (pN p) with
  | false =>
    refine Step.bad hI (k := 1) (v := 0) (b := 0) (c := 2) ?_ ?_ (by decide)
    · unfold mX8_change; simp only [bd_q, jp_q, ob_q, on_q, if_true, if_false, Bool.false_eq_true, Bool.true_eq_false, Bool.not_true, Bool.not_false, pr99, pr9, pr8, cReqS h, cReqT h, cReqQ h, cReqL h, cReqB, cReq0, cReq1, cTenthB, cAskB, cFitB, xqz, xq1, xq2, xq3, pl2, pl3, pl4, pl5, pl14, pl40, pl50, pl100, pl999, pe3, pe11, pe30, pe40, pe300, bI_if, bI_0, b1, b2]
    · show mX9_change u (nI q) x2 = _
      unfold mX9_change; simp only [bd_q, jp_q, ob_q, on_q, if_true, if_false, Bool.false_eq_true, Bool.true_eq_false, Bool.not_true, Bool.not_false, ir99, ir9, ir8, w0e, rIsS hw, rIsT hw, rIsQ hw, rIsL hw, rBad w00 _ (show (1 : Int32) ≠ 0 by decide), rBad w00 _ (show (2 : Int32) ≠ 0 by decide), rBad w00 _ (show (3 : Int32) ≠ 0 by decide), rBad1 w00 (show (1 : Int32) ≠ 0 by decide), rBad1 w00 (show (2 : Int32) ≠ 0 by decide), rBad1 w00 (show (3 : Int32) ≠ 0 by decide), rBad0 w00 (show (1 : Int32) ≠ 0 by decide), rBad0 w00 (show (2 : Int32) ≠ 0 by decide), rBad0 w00 (show (3 : Int32) ≠ 0 by decide), e10, in2, in3, in4, in5, in10, in14, in29, in39, in40, in50, in100, in299, in999, bI_nn, bI_0, b1, b2]
  | true =>
  obtain ⟨l, hl, rfl⟩ := inB_t (by omega) b2
  obtain ⟨l14, ls, lt, l0, l1, l2, l3, lf⟩ := h.lk hl
  have ls6 : loS u l < 6 := by omega
  obtain ⟨r, s2⟩ := h.2.2.1 _ ls
  have hc := s2.1.2.1
  have hT8 := s2.1.2.2.2
  have s3 := s2
  obtain ⟨-, ⟨a0, a1, a2, a3, a4, a5, a6⟩, -⟩ := s3
  have hy := hw.ly hl
  have hqf := QF.w0 (u := u) (c := 0)
  rw [w0e] at hqf
  have hlo := hqf.lo (p := p) 0 l
  rw [hlo.1, hlo.2.1, hqf.2.1, hlo.2.2.1] at hy
  have rT : ∀ x, mX9_isThing (w0 u) (nI l) x = some (bI (inB x (sT (pC p (loS u l))))) := fun x => by rw [rThing hw hl x, hlo.1]
  obtain ⟨u1, e1, q1, hv1⟩ := IV.chSeen h hv hl hq
  have hw1 := w0c (q1.c h)
  obtain ⟨u2, e2, f2⟩ := IV.chOf hw1 hl hq
  have qw : QF u (w0 u1) := q1.tr QF.w0
  rw [qw.ch] at e2
  refine Step.ask h (u1 := u1) (u2 := u2) (v := chJ p u q l) ?_ ?_ q1 hv1 (QF.w0.tr (f2.qf (by decide) (by decide))) (by rw [f2.m1 (by decide) (by decide), w054]) (by rw [f2.2.1 0 (by simp), w00])
  · unfold mX8_change; simp only [bd_q, jp_q, ob_q, on_q, if_true, if_false, Bool.false_eq_true, Bool.true_eq_false, Bool.not_true, Bool.not_false, pr99, pr9, pr8, cReqS h, cReqT h, cReqQ h, cReqL h, cReqB, cReq0, cReq1, cTenthB, cAskB, cFitB, xqz, xq1, xq2, xq3, pl2, pl3, pl4, pl5, pl14, pl40, pl50, pl100, pl999, pe3, pe11, pe30, pe40, pe300, bI_if, bI_0, b1, b2, h.sceneFor hl, a0, pc1, rT, e1]
  · show mX9_change u1 (nI q) (nI l) = _
    have hw := hw1
    unfold mX9_change; simp only [bd_q, jp_q, ob_q, on_q, if_true, if_false, Bool.false_eq_true, Bool.true_eq_false, Bool.not_true, Bool.not_false, ir99, ir9, ir8, w0e, rIsS hw, rIsT hw, rIsQ hw, rIsL hw, rBad w00 _ (show (1 : Int32) ≠ 0 by decide), rBad w00 _ (show (2 : Int32) ≠ 0 by decide), rBad w00 _ (show (3 : Int32) ≠ 0 by decide), rBad1 w00 (show (1 : Int32) ≠ 0 by decide), rBad1 w00 (show (2 : Int32) ≠ 0 by decide), rBad1 w00 (show (3 : Int32) ≠ 0 by decide), rBad0 w00 (show (1 : Int32) ≠ 0 by decide), rBad0 w00 (show (2 : Int32) ≠ 0 by decide), rBad0 w00 (show (3 : Int32) ≠ 0 by decide), e10, in2, in3, in4, in5, in10, in14, in29, in39, in40, in50, in100, in299, in999, bI_nn, bI_0, b1, b2, h.sceneFor hl, a0, pc1, rT, e2]
-- drawn
set_option maxHeartbeats 2000000 in
theorem s_drawn (x1 x2 x3 x4 : Int32) : Step [3, 1] (fun u => mX8_drawn u x1 x2 x3 x4) (fun u => mX9_drawn u x1 x2 x3 x4) := by
  intro u hI
  have ⟨p, h, hv⟩ := hI
  have hw := w0c h
  have n6 := h.1.1.1
  have t6 := h.1.1.2.1
  have q4 := h.1.1.2.2.1
  have n14 := h.2.2.2.2.2.1.2.1.1.1
  cases b1 : inB x1 (pNl p) with
  | false =>
    refine Step.bad hI (k := 3) (v := 0) (b := 0) (c := 1) ?_ ?_ (by decide)
    · unfold mX8_drawn; simp only [bd_q, jp_q, ob_q, on_q, if_true, if_false, Bool.false_eq_true, Bool.true_eq_false, Bool.not_true, Bool.not_false, pr99, pr9, pr8, cReqS h, cReqT h, cReqQ h, cReqL h, cReqB, cReq0, cReq1, cTenthB, cAskB, cFitB, xqz, xq1, xq2, xq3, pl2, pl3, pl4, pl5, pl14, pl40, pl50, pl100, pl999, pe3, pe11, pe30, pe40, pe300, bI_if, bI_0, b1]
    · show mX9_drawn u x1 x2 x3 x4 = _
      unfold mX9_drawn; simp only [bd_q, jp_q, ob_q, on_q, if_true, if_false, Bool.false_eq_true, Bool.true_eq_false, Bool.not_true, Bool.not_false, ir99, ir9, ir8, w0e, rIsS hw, rIsT hw, rIsQ hw, rIsL hw, rBad w00 _ (show (1 : Int32) ≠ 0 by decide), rBad w00 _ (show (2 : Int32) ≠ 0 by decide), rBad w00 _ (show (3 : Int32) ≠ 0 by decide), rBad1 w00 (show (1 : Int32) ≠ 0 by decide), rBad1 w00 (show (2 : Int32) ≠ 0 by decide), rBad1 w00 (show (3 : Int32) ≠ 0 by decide), rBad0 w00 (show (1 : Int32) ≠ 0 by decide), rBad0 w00 (show (2 : Int32) ≠ 0 by decide), rBad0 w00 (show (3 : Int32) ≠ 0 by decide), e10, in2, in3, in4, in5, in10, in14, in29, in39, in40, in50, in100, in299, in999, bI_nn, bI_0, b1]
  | true =>
  obtain ⟨q, hq, rfl⟩ := inB_t (by omega) b1
  obtain ⟨lr, lc, lw⟩ := h.law hq
  cases b2 : inB x2 (pN p) with
  | false =>
    refine Step.bad hI (k := 1) (v := 0) (b := 0) (c := 2) ?_ ?_ (by decide)
    · unfold mX8_drawn; simp only [bd_q, jp_q, ob_q, on_q, if_true, if_false, Bool.false_eq_true, Bool.true_eq_false, Bool.not_true, Bool.not_false, pr99, pr9, pr8, cReqS h, cReqT h, cReqQ h, cReqL h, cReqB, cReq0, cReq1, cTenthB, cAskB, cFitB, xqz, xq1, xq2, xq3, pl2, pl3, pl4, pl5, pl14, pl40, pl50, pl100, pl999, pe3, pe11, pe30, pe40, pe300, bI_if, bI_0, b1, b2]
    · show mX9_drawn u (nI q) x2 x3 x4 = _
      unfold mX9_drawn; simp only [bd_q, jp_q, ob_q, on_q, if_true, if_false, Bool.false_eq_true, Bool.true_eq_false, Bool.not_true, Bool.not_false, ir99, ir9, ir8, w0e, rIsS hw, rIsT hw, rIsQ hw, rIsL hw, rBad w00 _ (show (1 : Int32) ≠ 0 by decide), rBad w00 _ (show (2 : Int32) ≠ 0 by decide), rBad w00 _ (show (3 : Int32) ≠ 0 by decide), rBad1 w00 (show (1 : Int32) ≠ 0 by decide), rBad1 w00 (show (2 : Int32) ≠ 0 by decide), rBad1 w00 (show (3 : Int32) ≠ 0 by decide), rBad0 w00 (show (1 : Int32) ≠ 0 by decide), rBad0 w00 (show (2 : Int32) ≠ 0 by decide), rBad0 w00 (show (3 : Int32) ≠ 0 by decide), e10, in2, in3, in4, in5, in10, in14, in29, in39, in40, in50, in100, in299, in999, bI_nn, bI_0, b1, b2]
  | true =>
  obtain ⟨l, hl, rfl⟩ := inB_t (by omega) b2
  obtain ⟨l14, ls, lt, l0, l1, l2, l3, lf⟩ := h.lk hl
  have ls6 : loS u l < 6 := by omega
  obtain ⟨r, s2⟩ := h.2.2.1 _ ls
  have hc := s2.1.2.1
  have hT8 := s2.1.2.2.2
  have s3 := s2
  obtain ⟨-, ⟨a0, a1, a2, a3, a4, a5, a6⟩, -⟩ := s3
  have hy := hw.ly hl
  have hqf := QF.w0 (u := u) (c := 0)
  rw [w0e] at hqf
  have hlo := hqf.lo (p := p) 0 l
  rw [hlo.1, hlo.2.1, hqf.2.1, hlo.2.2.1] at hy
  have rT : ∀ x, mX9_isThing (w0 u) (nI l) x = some (bI (inB x (sT (pC p (loS u l))))) := fun x => by rw [rThing hw hl x, hlo.1]
  cases b3 : inB x3 51 with
  | false =>
    refine Step.bad hI (k := 1) (v := 0) (b := 0) (c := 2) ?_ ?_ (by decide)
    · unfold mX8_drawn; simp only [bd_q, jp_q, ob_q, on_q, if_true, if_false, Bool.false_eq_true, Bool.true_eq_false, Bool.not_true, Bool.not_false, pr99, pr9, pr8, cReqS h, cReqT h, cReqQ h, cReqL h, cReqB, cReq0, cReq1, cTenthB, cAskB, cFitB, xqz, xq1, xq2, xq3, pl2, pl3, pl4, pl5, pl14, pl40, pl50, pl100, pl999, pe3, pe11, pe30, pe40, pe300, bI_if, bI_0, b1, b2, b3, h.sceneFor hl, a0, pc1, rT]
    · show mX9_drawn u (nI q) (nI l) x3 x4 = _
      unfold mX9_drawn; simp only [bd_q, jp_q, ob_q, on_q, if_true, if_false, Bool.false_eq_true, Bool.true_eq_false, Bool.not_true, Bool.not_false, ir99, ir9, ir8, w0e, rIsS hw, rIsT hw, rIsQ hw, rIsL hw, rBad w00 _ (show (1 : Int32) ≠ 0 by decide), rBad w00 _ (show (2 : Int32) ≠ 0 by decide), rBad w00 _ (show (3 : Int32) ≠ 0 by decide), rBad1 w00 (show (1 : Int32) ≠ 0 by decide), rBad1 w00 (show (2 : Int32) ≠ 0 by decide), rBad1 w00 (show (3 : Int32) ≠ 0 by decide), rBad0 w00 (show (1 : Int32) ≠ 0 by decide), rBad0 w00 (show (2 : Int32) ≠ 0 by decide), rBad0 w00 (show (3 : Int32) ≠ 0 by decide), e10, in2, in3, in4, in5, in10, in14, in29, in39, in40, in50, in100, in299, in999, bI_nn, bI_0, b1, b2, b3, h.sceneFor hl, a0, pc1, rT]
  | true =>
  obtain ⟨d, hd, rfl⟩ := inB_t (by decide) b3
  obtain ⟨e, he3, he⟩ := endS_nI hc
  rcases oddS_nI hc with z | ⟨t, ht, et⟩
  · obtain ⟨hw1, hy1, m38, m39, m40⟩ := ref_ctx h QF.rf hl
    obtain ⟨s', hs', e81⟩ := hy1.1.rs
    refine Step.ask h (u1 := u) (u2 := w0 u) (v := -1) ?_ ?_ QF.rf hv QF.w0 w054 w00
    · unfold mX8_drawn; simp only [bd_q, jp_q, ob_q, on_q, if_true, if_false, Bool.false_eq_true, Bool.true_eq_false, Bool.not_true, Bool.not_false, pr99, pr9, pr8, cReqS h, cReqT h, cReqQ h, cReqL h, cReqB, cReq0, cReq1, cTenthB, cAskB, cFitB, xqz, xq1, xq2, xq3, pl2, pl3, pl4, pl5, pl14, pl40, pl50, pl100, pl999, pe3, pe11, pe30, pe40, pe300, bI_if, bI_0, b1, b2, b3, h.sceneFor hl, a0, pc1, rT, a4, z]
    · show mX9_drawn u (nI q) (nI l) (nI d) x4 = _
      unfold mX9_drawn; simp only [bd_q, jp_q, ob_q, on_q, if_true, if_false, Bool.false_eq_true, Bool.true_eq_false, Bool.not_true, Bool.not_false, ir99, ir9, ir8, w0e, rIsS hw, rIsT hw, rIsQ hw, rIsL hw, rBad w00 _ (show (1 : Int32) ≠ 0 by decide), rBad w00 _ (show (2 : Int32) ≠ 0 by decide), rBad w00 _ (show (3 : Int32) ≠ 0 by decide), rBad1 w00 (show (1 : Int32) ≠ 0 by decide), rBad1 w00 (show (2 : Int32) ≠ 0 by decide), rBad1 w00 (show (3 : Int32) ≠ 0 by decide), rBad0 w00 (show (1 : Int32) ≠ 0 by decide), rBad0 w00 (show (2 : Int32) ≠ 0 by decide), rBad0 w00 (show (3 : Int32) ≠ 0 by decide), e10, in2, in3, in4, in5, in10, in14, in29, in39, in40, in50, in100, in299, in999, bI_nn, bI_0, b1, b2, b3, h.sceneFor hl, a0, pc1, rT, ck_nI (show l < 15 by omega) (show 15 < 2 ^ 31 by decide), c8_0, e81, rOdd hs', z]
  · have hne : ¬ oddS (pC p (loS u l)) = -1 := by rw [et]; exact nI_m1 (by omega)
    obtain ⟨u1, e1, f1, hV, v43, v45⟩ := h.look hl he3
    have hF2 : Fvw [4, 7, 46, 47] u (wI (wI u1 4 0 3 (nI d)) 4 0 4 x4) := (f1.sI (by decide) (by decide)).sI (by decide) (by decide)
    have hV2 : VX (wI (wI u1 4 0 3 (nI d)) 4 0 4 x4) (loS u l) (pC p (loS u l)) (loT u l) (pT p (loT u l)) (lkF u l 2) e (loE p u l) (-1) 0 1 := by
      obtain ⟨v1, v2, v3, v4, v5⟩ := hV
      refine ⟨v1, v2.eq ?_ ?_ ?_ ?_ ?_ ?_ (fun _ _ => rfl), ?_, ?_, ?_⟩
      · rw [gI_r (by decide), gI_r (by decide)]
      · rw [gI_r (by decide), gI_r (by decide)]
      · rw [gI_r (by decide), gI_r (by decide)]
      · rw [gI_r (by decide), gI_r (by decide)]
      · rw [gI_r (by decide), gI_r (by decide)]
      · rw [gI_r (by decide), gI_r (by decide)]
      · rw [gI_r (by decide), gI_r (by decide)]; exact v3
      · rw [gI_r (by decide), gI_r (by decide)]; exact v4
      · rw [gI_r (by decide), gI_r (by decide)]; exact v5
    have t9 : gI (wI (wI u1 4 0 3 (nI d)) 4 0 4 x4) 3 (loS u l) 9 = nI t := by rw [gI_r (by decide), gI_r (by decide), hV.2.1.2.1.2.2.2.2.1, et]
    have hd50 : nI d ≤ (50 : Int32) := nI_le (b := 50) (by omega) (by decide)
    obtain ⟨u2, e2, g2, -⟩ := cFirst (noise := nI d) (chg := false) hV2 (lc.fvw hF2) lw (by decide) z3 ht (Or.inr ⟨by rw [gI_k (by decide), gI_eq], nI_pos' (by omega), hd50⟩) (by rw [gI_k (by decide), gI_k (by decide)]; exact v45) (fun y => by cases y) he
    rw [gI_eq] at e2
    have q3 := (hF2.qf (by decide)).tr g2.qf
    obtain ⟨hw1, hy1, m38, m39, m40⟩ := ref_ctx h q3 hl
    obtain ⟨s', hs', e81⟩ := hy1.1.rs
    obtain ⟨u4, e4, f4, g4, -⟩ := rGoes hy1 hc (hw1.law hq).1 lw (by rw [m40]; decide) ht (nI d) x4 hd50 false he he3
    rw [m38, m39, m40, List.range_eq_range', go_fs (fun y => by cases y) (e + 1) 0 0 x4 (by omega)] at g4
    rw [show bI false = 0 from rfl] at e4
    refine Step.ask h (u1 := u2) (u2 := u4) (v := gI u4 9 0 41) ?_ ?_ q3 (q3.s (g2.g54.trans (hF2.m1 (by decide) (by decide))) hv) (QF.w0.tr (f4.qf (by decide) (by decide))) (by rw [f4.m1 (by decide) (by decide), w054]) (by rw [f4.2.1 0 (by simp), w00])
    · unfold mX8_drawn mX4_drawBy; simp only [bd_q, jp_q, ob_q, on_q, if_true, if_false, Bool.false_eq_true, Bool.true_eq_false, Bool.not_true, Bool.not_false, pr99, pr9, pr8, cReqS h, cReqT h, cReqQ h, cReqL h, cReqB, cReq0, cReq1, cTenthB, cAskB, cFitB, xqz, xq1, xq2, xq3, pl2, pl3, pl4, pl5, pl14, pl40, pl50, pl100, pl999, pe3, pe11, pe30, pe40, pe300, bI_if, bI_0, b1, b2, b3, h.sceneFor hl, a0, pc1, rT, a4, hne, a6, he, e1, ck_nI (show q < 4 by omega) (show 4 < 2 ^ 31 by decide), t9, e2, g4]
    · show mX9_drawn u2 (nI q) (nI l) (nI d) x4 = _
      have hw := hw1
      unfold mX9_drawn; simp only [bd_q, jp_q, ob_q, on_q, if_true, if_false, Bool.false_eq_true, Bool.true_eq_false, Bool.not_true, Bool.not_false, ir99, ir9, ir8, w0e, rIsS hw, rIsT hw, rIsQ hw, rIsL hw, rBad w00 _ (show (1 : Int32) ≠ 0 by decide), rBad w00 _ (show (2 : Int32) ≠ 0 by decide), rBad w00 _ (show (3 : Int32) ≠ 0 by decide), rBad1 w00 (show (1 : Int32) ≠ 0 by decide), rBad1 w00 (show (2 : Int32) ≠ 0 by decide), rBad1 w00 (show (3 : Int32) ≠ 0 by decide), rBad0 w00 (show (1 : Int32) ≠ 0 by decide), rBad0 w00 (show (2 : Int32) ≠ 0 by decide), rBad0 w00 (show (3 : Int32) ≠ 0 by decide), e10, in2, in3, in4, in5, in10, in14, in29, in39, in40, in50, in100, in299, in999, bI_nn, bI_0, b1, b2, b3, h.sceneFor hl, a0, pc1, rT, ck_nI (show l < 15 by omega) (show 15 < 2 ^ 31 by decide), c8_0, e81, rOdd hs', hne]
      rw [et, e4]
      simp only [ob_q]
