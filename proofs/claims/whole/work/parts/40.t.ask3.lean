theorem IVc.know {p : IP} {u : HS} (h : IVc p u) {l : Nat} (hl : l < pN p) : mX0_isKnowing u 0 (nI l) = some (lkF u l 2) ∧ (lkF u l 2 = 0 ∨ lkF u l 2 = 1) := by
  obtain ⟨-, -, -, -, -, ⟨-, ⟨b1, -⟩, c1, -⟩, -⟩ := h
  have e := (b1.2.2 l hl).2.2.1
  have k := (c1 l hl).2.2.1
  refine ⟨?_, k⟩
  unfold mX0_isKnowing
  rw [e]
  rcases k with q | q <;> rw [q] <;> rfl
/-- what miss() says -/
def msS (p : IP) (u : HS) (q l f : Nat) : Int32 :=
  if yeS (loJ p u q l) 0 = true then (if lkF u l 2 = 0 then -1 else 7)
  else if (loJ p u q l) &&& 1 = 0 then blS (pC p (loS u l)) (pT p (loT u l)) (loE p u l) (nI f) (endS (pC p (loS u l))).toNatClampNeg
  else if (loJ p u q l) &&& 2 = 0 then 4 else 3
theorem juS_bits {w : LT} {Nm : Int32 → Nat → Int32} {Hr : Int32 → Bool} {e : Nat} : (fiS w Nm Hr e = none → juS w Nm Hr e = 0) ∧ ∀ f, fiS w Nm Hr e = some f → juS w Nm Hr e &&& 1 = 1 ∧ (juS w Nm Hr e &&& 2 = 0) = (foS w Nm e f = false) := by
  unfold juS
  refine ⟨fun h => by rw [h]; rfl, fun f h => ?_⟩
  rw [h]
  simp only [Option.elim]
  cases foS w Nm e f <;> cases unS w Nm Hr e <;> refine ⟨rfl, ?_⟩ <;> simp <;> decide
-- miss
set_option maxHeartbeats 2000000 in
theorem s_miss (x1 x2 x3 : Int32) : Step [3, 1] (fun u => mX8_miss u x1 x2 x3) (fun u => mX9_miss u x1 x2 x3) := by
  intro u hI
  have ⟨p, h, hv⟩ := hI
  have hw := w0c h
  have n6 := h.1.1.1
  have t6 := h.1.1.2.1
  have q4 := h.1.1.2.2.1
  have n14 := h.2.2.2.2.2.1.2.1.1.1
  cases b1 : inB x1 (pNl p) with
  | false =>
    refine Step.bad hI (k := 3) (v := 0) (b := 0) (c := 1) ?_ ?_ (by decide)
    · unfold mX8_miss; simp only [bd_q, jp_q, ob_q, on_q, if_true, if_false, Bool.false_eq_true, Bool.true_eq_false, Bool.not_true, Bool.not_false, pr99, pr9, pr8, cReqS h, cReqT h, cReqQ h, cReqL h, cReqB, cReq0, cReq1, cTenthB, cAskB, cFitB, xqz, xq1, xq2, xq3, pl2, pl3, pl4, pl5, pl14, pl40, pl50, pl100, pl999, pe3, pe11, pe30, pe40, pe300, bI_if, bI_0, b1]
    · show mX9_miss u x1 x2 x3 = _
      unfold mX9_miss; simp only [bd_q, jp_q, ob_q, on_q, if_true, if_false, Bool.false_eq_true, Bool.true_eq_false, Bool.not_true, Bool.not_false, ir99, ir9, ir8, w0e, rIsS hw, rIsT hw, rIsQ hw, rIsL hw, rBad w00 _ (show (1 : Int32) ≠ 0 by decide), rBad w00 _ (show (2 : Int32) ≠ 0 by decide), rBad w00 _ (show (3 : Int32) ≠ 0 by decide), rBad1 w00 (show (1 : Int32) ≠ 0 by decide), rBad1 w00 (show (2 : Int32) ≠ 0 by decide), rBad1 w00 (show (3 : Int32) ≠ 0 by decide), rBad0 w00 (show (1 : Int32) ≠ 0 by decide), rBad0 w00 (show (2 : Int32) ≠ 0 by decide), rBad0 w00 (show (3 : Int32) ≠ 0 by decide), e10, in2, in3, in4, in5, in10, in14, in29, in39, in40, in50, in100, in299, in999, bI_nn, bI_0, b1]
  | true =>
  obtain ⟨q, hq, rfl⟩ := inB_t (by omega) b1
  obtain ⟨lr, lc, lw⟩ := h.law hq
  cases b2 : inB x2 (pN p) with
  | false =>
    refine Step.bad hI (k := 1) (v := 0) (b := 0) (c := 2) ?_ ?_ (by decide)
    · unfold mX8_miss; simp only [bd_q, jp_q, ob_q, on_q, if_true, if_false, Bool.false_eq_true, Bool.true_eq_false, Bool.not_true, Bool.not_false, pr99, pr9, pr8, cReqS h, cReqT h, cReqQ h, cReqL h, cReqB, cReq0, cReq1, cTenthB, cAskB, cFitB, xqz, xq1, xq2, xq3, pl2, pl3, pl4, pl5, pl14, pl40, pl50, pl100, pl999, pe3, pe11, pe30, pe40, pe300, bI_if, bI_0, b1, b2]
    · show mX9_miss u (nI q) x2 x3 = _
      unfold mX9_miss; simp only [bd_q, jp_q, ob_q, on_q, if_true, if_false, Bool.false_eq_true, Bool.true_eq_false, Bool.not_true, Bool.not_false, ir99, ir9, ir8, w0e, rIsS hw, rIsT hw, rIsQ hw, rIsL hw, rBad w00 _ (show (1 : Int32) ≠ 0 by decide), rBad w00 _ (show (2 : Int32) ≠ 0 by decide), rBad w00 _ (show (3 : Int32) ≠ 0 by decide), rBad1 w00 (show (1 : Int32) ≠ 0 by decide), rBad1 w00 (show (2 : Int32) ≠ 0 by decide), rBad1 w00 (show (3 : Int32) ≠ 0 by decide), rBad0 w00 (show (1 : Int32) ≠ 0 by decide), rBad0 w00 (show (2 : Int32) ≠ 0 by decide), rBad0 w00 (show (3 : Int32) ≠ 0 by decide), e10, in2, in3, in4, in5, in10, in14, in29, in39, in40, in50, in100, in299, in999, bI_nn, bI_0, b1, b2]
  | true =>
  obtain ⟨l, hl, rfl⟩ := inB_t (by omega) b2
  obtain ⟨l14, ls, lt, l0, l1, l2, l3, lf⟩ := h.lk hl
  have ls6 : loS u l < 6 := by omega
  obtain ⟨r, s2⟩ := h.2.2.1 _ ls
  have hc := s2.1.2.1
  have hT8 := s2.1.2.2.2
  have s3 := s2
  obtain ⟨-, ⟨a0, a1, a2, a3, a4, a5, a6⟩, -⟩ := s3
  have hy := hw.ly hl
  have hqf := QF.w0 (u := u) (c := 0)
  rw [w0e] at hqf
  have hlo := hqf.lo (p := p) 0 l
  rw [hlo.1, hlo.2.1, hqf.2.1, hlo.2.2.1] at hy
  have rT : ∀ x, mX9_isThing (w0 u) (nI l) x = some (bI (inB x (sT (pC p (loS u l))))) := fun x => by rw [rThing hw hl x, hlo.1]
  cases b3 : inR x3 1 (nI 99) with
  | false =>
    refine Step.bad hI (k := 1) (v := 0) (b := 0) (c := 2) ?_ ?_ (by decide)
    · unfold mX8_miss; simp only [bd_q, jp_q, ob_q, on_q, if_true, if_false, Bool.false_eq_true, Bool.true_eq_false, Bool.not_true, Bool.not_false, pr99, pr9, pr8, cReqS h, cReqT h, cReqQ h, cReqL h, cReqB, cReq0, cReq1, cTenthB, cAskB, cFitB, xqz, xq1, xq2, xq3, pl2, pl3, pl4, pl5, pl14, pl40, pl50, pl100, pl999, pe3, pe11, pe30, pe40, pe300, bI_if, bI_0, b1, b2, b3, h.sceneFor hl, a0, pc1, rT]
    · show mX9_miss u (nI q) (nI l) x3 = _
      unfold mX9_miss; simp only [bd_q, jp_q, ob_q, on_q, if_true, if_false, Bool.false_eq_true, Bool.true_eq_false, Bool.not_true, Bool.not_false, ir99, ir9, ir8, w0e, rIsS hw, rIsT hw, rIsQ hw, rIsL hw, rBad w00 _ (show (1 : Int32) ≠ 0 by decide), rBad w00 _ (show (2 : Int32) ≠ 0 by decide), rBad w00 _ (show (3 : Int32) ≠ 0 by decide), rBad1 w00 (show (1 : Int32) ≠ 0 by decide), rBad1 w00 (show (2 : Int32) ≠ 0 by decide), rBad1 w00 (show (3 : Int32) ≠ 0 by decide), rBad0 w00 (show (1 : Int32) ≠ 0 by decide), rBad0 w00 (show (2 : Int32) ≠ 0 by decide), rBad0 w00 (show (3 : Int32) ≠ 0 by decide), e10, in2, in3, in4, in5, in10, in14, in29, in39, in40, in50, in100, in299, in999, bI_nn, bI_0, b1, b2, b3, h.sceneFor hl, a0, pc1, rT]
  | true =>
  obtain ⟨f, hf1, hf2, rfl⟩ := inR_t (by decide) b3
  obtain ⟨e, he3, he⟩ := endS_nI hc
  have hem : (endS (pC p (loS u l))).toNatClampNeg = e := by rw [he, nI_clamp (by omega)]
  obtain ⟨u1, e1, f1, hv1⟩ := IV.stateOf h hv hl hq
  have q1 := f1.qf (fun r hr => hr)
  have h1 := q1.c h
  -- the class
  have hcls : ∃ u2, mX8_miss u (nI q) (nI l) (nI f) = some (0, msS p u q l f, u2) ∧ QF u u2 ∧ IVs p u2 := by
    unfold msS
    cases hy0 : yeS (loJ p u q l) 0 with
    | true =>
      have k := h1.know hl
      rw [q1.2.1] at k
      rw [if_pos rfl]
      refine ⟨u1, ?_, q1, hv1⟩
      unfold mX8_miss; simp only [bd_q, jp_q, ob_q, on_q, if_true, if_false, Bool.false_eq_true, Bool.true_eq_false, Bool.not_true, Bool.not_false, pr99, pr9, pr8, cReqS h, cReqT h, cReqQ h, cReqL h, cReqB, cReq0, cReq1, cTenthB, cAskB, cFitB, xqz, xq1, xq2, xq3, pl2, pl3, pl4, pl5, pl14, pl40, pl50, pl100, pl999, pe3, pe11, pe30, pe40, pe300, bI_if, bI_0, b1, b2, b3, h.sceneFor hl, a0, pc1, rT, e1, show mX8_isYes (loJ p u q l) 0 = some (bI true) by rw [← hy0]; exact cYes _ (a := 0) (by decide), k.1]
      split <;> rfl
    | false =>
      rw [if_neg (by decide)]
      by_cases c1 : loJ p u q l &&& 1 = 0
      · rw [if_pos c1, hem]
        have lo1 := q1.lo (p := p) 0 l
        obtain ⟨u2, e2, f2, hV, -, -⟩ := h1.look hl he3
        rw [lo1.1, lo1.2.1, q1.2.1, lo1.2.2.1] at hV
        have s11 := (h1.2.2.1 _ ls).2.2.1.2.2.2.2.2.2
        rw [he] at s11
        have q2 := f2.qf (by decide)
        refine ⟨u2, ?_, q1.tr q2, q2.s (f2.m1 (by decide) (by decide)) hv1⟩
        have sf := h1.sceneFor hl
        rw [lo1.1] at sf
        unfold mX8_miss; simp only [bd_q, jp_q, ob_q, on_q, if_true, if_false, Bool.false_eq_true, Bool.true_eq_false, Bool.not_true, Bool.not_false, pr99, pr9, pr8, cReqS h, cReqT h, cReqQ h, cReqL h, cReqB, cReq0, cReq1, cTenthB, cAskB, cFitB, xqz, xq1, xq2, xq3, pl2, pl3, pl4, pl5, pl14, pl40, pl50, pl100, pl999, pe3, pe11, pe30, pe40, pe300, bI_if, bI_0, b1, b2, b3, h.sceneFor hl, a0, pc1, rT, e1, show mX8_isYes (loJ p u q l) 0 = some (bI false) by rw [← hy0]; exact cYes _ (a := 0) (by decide), c1, sf, s11, e2, cBlind hV he hf1 (show f < 100 by omega)]
      · rw [if_neg c1]
        refine ⟨u1, ?_, q1, hv1⟩
        unfold mX8_miss; simp only [bd_q, jp_q, ob_q, on_q, if_true, if_false, Bool.false_eq_true, Bool.true_eq_false, Bool.not_true, Bool.not_false, pr99, pr9, pr8, cReqS h, cReqT h, cReqQ h, cReqL h, cReqB, cReq0, cReq1, cTenthB, cAskB, cFitB, xqz, xq1, xq2, xq3, pl2, pl3, pl4, pl5, pl14, pl40, pl50, pl100, pl999, pe3, pe11, pe30, pe40, pe300, bI_if, bI_0, b1, b2, b3, h.sceneFor hl, a0, pc1, rT, e1, show mX8_isYes (loJ p u q l) 0 = some (bI false) by rw [← hy0]; exact cYes _ (a := 0) (by decide), c1]
        split <;> rfl
  obtain ⟨u2, ec, q2, hv2⟩ := hcls
  -- the reference
  obtain ⟨hw1, hy1, m38, m39, m40⟩ := ref_ctx h q2 hl
  have qw : QF u (w0 u2) := q2.tr QF.w0
  obtain ⟨s', hs', e81⟩ := hy1.1.rs
  obtain ⟨u3, e3, f3⟩ := IV.says hw1 hl hq (a := 0) (by decide)
  rw [(qw.lo (p := p) q l).2.2.2] at e3
  have hy3 : LY u3 l (pC p (loS u l)) (pT p (loT u l)) (lkF u l 2) (loE p u l) := hy1.fr f3 (by decide) (by decide)
  have k38 : gI u3 9 0 38 = 0 := (f3.2.1 38 (by simp)).trans m38
  have k39 : gI u3 9 0 39 = 0 := (f3.2.1 39 (by simp)).trans m39
  have k40 : gI u3 9 0 40 = 1 := (f3.2.1 40 (by simp)).trans m40
  have lr3 : LR u3 q (pW p q) := (hw1.law hq).1.fr f3 (by decide)
  have hl15 : ck 15 (nI l) = some l := ck_nI (by omega) (by decide)
  have hlk2 : gI u3 81 l 2 = lkF u l 2 := by
    rw [f3.m1 (by decide) (by decide), ← qw.2.1]; unfold lkF; rw [if_pos l14]
  have hrf : ∃ u4, mX9_miss u2 (nI q) (nI l) (nI f) = some (msS p u q l f, u4) ∧ Fr [78, 79] [41, 42] (w0 u2) u4 := by
    unfold msS
    have hw := hw1
    cases hy0 : yeS (loJ p u q l) 0 with
    | true =>
      rw [hy0] at e3
      rw [if_pos rfl]
      refine ⟨u3, ?_, f3⟩
      unfold mX9_miss; simp only [bd_q, jp_q, ob_q, on_q, if_true, if_false, Bool.false_eq_true, Bool.true_eq_false, Bool.not_true, Bool.not_false, ir99, ir9, ir8, w0e, rIsS hw, rIsT hw, rIsQ hw, rIsL hw, rBad w00 _ (show (1 : Int32) ≠ 0 by decide), rBad w00 _ (show (2 : Int32) ≠ 0 by decide), rBad w00 _ (show (3 : Int32) ≠ 0 by decide), rBad1 w00 (show (1 : Int32) ≠ 0 by decide), rBad1 w00 (show (2 : Int32) ≠ 0 by decide), rBad1 w00 (show (3 : Int32) ≠ 0 by decide), rBad0 w00 (show (1 : Int32) ≠ 0 by decide), rBad0 w00 (show (2 : Int32) ≠ 0 by decide), rBad0 w00 (show (3 : Int32) ≠ 0 by decide), e10, in2, in3, in4, in5, in10, in14, in29, in39, in40, in50, in100, in299, in999, bI_nn, bI_0, b1, b2, b3, h.sceneFor hl, a0, pc1, rT, ir99, hl15, c8_0, c8_2, e81, rOdd hs', show mX9_saysBy (w0 u2) (nI q) (nI l) 0 = some (1, u3) from e3, hlk2]
      rcases (h.know hl).2 with k | k <;> rw [k] <;> rfl
    | false =>
      rw [hy0] at e3
      rw [if_neg (by decide)]
      unfold mX9_miss; simp only [bd_q, jp_q, ob_q, on_q, if_true, if_false, Bool.false_eq_true, Bool.true_eq_false, Bool.not_true, Bool.not_false, ir99, ir9, ir8, w0e, rIsS hw, rIsT hw, rIsQ hw, rIsL hw, rBad w00 _ (show (1 : Int32) ≠ 0 by decide), rBad w00 _ (show (2 : Int32) ≠ 0 by decide), rBad w00 _ (show (3 : Int32) ≠ 0 by decide), rBad1 w00 (show (1 : Int32) ≠ 0 by decide), rBad1 w00 (show (2 : Int32) ≠ 0 by decide), rBad1 w00 (show (3 : Int32) ≠ 0 by decide), rBad0 w00 (show (1 : Int32) ≠ 0 by decide), rBad0 w00 (show (2 : Int32) ≠ 0 by decide), rBad0 w00 (show (3 : Int32) ≠ 0 by decide), e10, in2, in3, in4, in5, in10, in14, in29, in39, in40, in50, in100, in299, in999, bI_nn, bI_0, b1, b2, b3, h.sceneFor hl, a0, pc1, rT, ir99, hl15, c8_0, c8_2, e81, rOdd hs', show mX9_saysBy (w0 u2) (nI q) (nI l) 0 = some (0, u3) from e3]
      by_cases c0 : oddS (pC p (loS u l)) = -1
      · rw [if_pos c0]
        have j0 : loJ p u q l = 0 := by unfold loJ jdS; rw [if_pos c0]
        rw [j0, if_pos (by decide)]
        unfold blS
        rw [if_pos c0]
        exact ⟨u3, rfl, f3⟩
      · rw [if_neg c0]
        rcases oddS_nI hc with z | ⟨t, ht, et⟩
        · exact absurd z c0
        · have jj : loJ p u q l = juS (pW p q) (fun τ => nmS (pC p (loS u l)) (pT p (loT u l)) (lkF u l 2) (loE p u l) 0 0 1 (nI t) τ) (hrS (pC p (loS u l)) (loE p u l) (nI t)) e := by unfold loJ jdS; rw [if_neg c0, hem, et]
          obtain ⟨u4, e4, f4, g4, -⟩ := rSeenOf hy3 hc lr3 lw (by rw [k40]; decide) ht he he3
          rw [k38, k39, k40] at e4 g4
          rw [et, e4]
          have f34 := f3.tr f4
          have hy4 : LY u4 l (pC p (loS u l)) (pT p (loT u l)) (lkF u l 2) (loE p u l) := hy1.fr f34 (by decide) (by decide)
          have i38 : gI u4 9 0 38 = 0 := (f34.2.1 38 (by simp)).trans m38
          have i39 : gI u4 9 0 39 = 0 := (f34.2.1 39 (by simp)).trans m39
          have i40 : gI u4 9 0 40 = 1 := (f34.2.1 40 (by simp)).trans m40
          simp only [ob_q]
          obtain ⟨b1, b2⟩ := juS_bits (w := pW p q) (Nm := fun τ => nmS (pC p (loS u l)) (pT p (loT u l)) (lkF u l 2) (loE p u l) 0 0 1 (nI t) τ) (Hr := hrS (pC p (loS u l)) (loE p u l) (nI t)) (e := e)
          cases hf : fiS (pW p q) (fun τ => nmS (pC p (loS u l)) (pT p (loT u l)) (lkF u l 2) (loE p u l) 0 0 1 (nI t) τ) (hrS (pC p (loS u l)) (loE p u l) (nI t)) e with
          | none =>
            rw [if_pos (show (none : Option Nat).elim (-1) nI = -1 from rfl), jj, b1 hf, if_pos (by decide), rDropped hy4.1 he he3 ht]
            unfold blS
            rw [if_neg c0, et]
            simp only [ob_q, bI_0, hem, rNearest hy4.1 i39 he he3]
            cases drpS (pC p (loS u l)) (pT p (loT u l)) (nI t) e with
            | true => exact ⟨u4, rfl, f34⟩
            | false =>
              simp only [if_true, Bool.false_eq_true, if_false]
              by_cases c2 : miS (pC p (loS u l)) (loE p u l) (nI t) e < nI f
              · rw [if_pos c2, if_neg (Int32.not_le.mpr c2)]
                by_cases c3 : miS (pC p (loS u l)) (loE p u l) (nI t) e ≤ 2
                · rw [if_pos c3, if_pos c3]; exact ⟨u4, rfl, f34⟩
                · rw [if_neg c3, if_neg c3]; exact ⟨u4, rfl, f34⟩
              · rw [if_neg c2, if_pos (Int32.not_lt.mp c2)]; exact ⟨u4, rfl, f34⟩
          | some f' =>
            have hfe := fiS_lt hf
            rw [hf] at g4
            obtain ⟨b3, b4⟩ := b2 f' hf
            rw [if_neg (show ¬ (some f').elim (-1) nI = -1 from nI_m1 (by omega)), jj, b3, if_neg (by decide)]
            obtain ⟨u5, e5, f5⟩ := rForg hy4 (lr3.fr f4 (by decide)) lw (by rw [i40]; decide) ht et he g4
            rw [i38, i39, i40] at e5
            rw [e5]
            have f35 := f34.tr (f5.mo (L' := [78, 79]) (K' := [41, 42]) (by decide) (by decide))
            simp only [ob_q, bI_0, b4]
            cases foS (pW p q) (fun τ => nmS (pC p (loS u l)) (pT p (loT u l)) (lkF u l 2) (loE p u l) 0 0 1 (nI t) τ) e f' with
            | false => exact ⟨u5, rfl, f35⟩
            | true => exact ⟨u5, rfl, f35⟩
  obtain ⟨u4, er, f4⟩ := hrf
  exact Step.ask h ec er q2 hv2 (QF.w0.tr (f4.qf (by decide) (by decide))) (by rw [f4.m1 (by decide) (by decide), w054]) (by rw [f4.2.1 0 (by simp), w00])
