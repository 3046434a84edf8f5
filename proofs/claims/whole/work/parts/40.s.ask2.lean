theorem ref_ctx {p : IP} {u u1 : HS} (h : IVc p u) (q1 : QF u u1) {l : Nat} (hl : l < pN p) : IVc p (w0 u1) ∧ LY (w0 u1) l (pC p (loS u l)) (pT p (loT u l)) (lkF u l 2) (loE p u l) ∧ gI (w0 u1) 9 0 38 = 0 ∧ gI (w0 u1) 9 0 39 = 0 ∧ gI (w0 u1) 9 0 40 = 1 := by
  have hw1 := w0c (q1.c h)
  have hy1 := hw1.ly hl
  have q2 : QF u (w0 u1) := q1.tr QF.w0
  have lo1 := q2.lo (p := p) 0 l
  rw [lo1.1, lo1.2.1, q2.2.1, lo1.2.2.1] at hy1
  exact ⟨hw1, hy1, hw1.2.2.2.2.2.2.2⟩
theorem rThing2 {p : IP} {u u1 : HS} (h : IVc p u) (q1 : QF u u1) {l : Nat} (hl : l < pN p) (x : Int32) : mX9_isThing (w0 u1) (nI l) x = some (bI (inB x (sT (pC p (loS u l))))) := by
  have q2 : QF u (w0 u1) := q1.tr QF.w0
  rw [rThing (w0c (q1.c h)) hl x, (q2.lo (p := p) 0 l).1]
theorem rOnL {u : HS} {l : Nat} {c : SV} {tk : Nat → Int32} {kn : Int32} {E : Int32 → Int32} (h : LX u l c tk kn E) (h39 : gI u 9 0 39 = 0) {m : Nat} (hm : endS c = nI m) (hm3 : m < 300) (d : Int32) : mX9_on_L57 (oddS c) (nI l) u d (fun x => some (x, u)) FU 0 0 = some (if oddS c = -1 then 0 else twS c E (oddS c) d m, u) := by
  have hh := h
  obtain ⟨s, t', nr, nb, ⟨h0, h1, h2, h3, h4, h5⟩, e0, e1, e2, e3, e4, e5, e6⟩ := h
  by_cases c0 : oddS c = -1
  · rw [if_pos c0, show FU = 4095 + 1 from rfl, mX9_on_L57.eq_2, if_pos c0]
  · rw [if_neg c0]
    refine (loopF0 (L := fun fu a y => mX9_on_L57 (oddS c) (nI l) u d (fun x => some (x, u)) fu a y) (w := fun a => some (a, u)) (fun a τ => a + bI (decide (neaS c E 0 (oddS c) (nI τ) ≤ d))) (n := m + 1) (o := 0) (FU_lt (by omega)) ?_ ?_ (a := 0) :)
    · intro fu a k hk
      show mX9_on_L57 (oddS c) (nI l) u d _ (fu + 1) a (nI (0 + k)) = mX9_on_L57 (oddS c) (nI l) u d _ fu _ (nI (0 + k + 1))
      rw [mX9_on_L57.eq_2, if_neg c0, ck_nI h2 (by decide), Nat.zero_add]
      simp only [ob_q, c8_0, e0, rEnd h0, hm]
      rw [if_neg (nI_nlt (by omega) (by omega))]
      simp only [rNear hh, h39, ob_q, bd_q, nI_1]
      by_cases q : neaS c E 0 (oddS c) (nI k) ≤ d
      · rw [if_neg (Int32.not_lt.mpr q)]; simp [q, bI, ob_q]
      · rw [if_pos (Int32.not_le.mp q)]; simp [q, bI, ob_q]
    · intro fu a
      show mX9_on_L57 (oddS c) (nI l) u d _ (fu + 1) a (nI (0 + (m + 1))) = _
      rw [mX9_on_L57.eq_2, if_neg c0, ck_nI h2 (by decide), Nat.zero_add]
      simp only [ob_q, c8_0, e0, rEnd h0, hm]
      rw [if_pos (nI_lt (by omega) (by omega))]
theorem rSumL {u : HS} {l q : Nat} {c : SV} {tk : Nat → Int32} {kn : Int32} {E : Int32 → Int32} {w : LT} (h : LY u l c tk kn E) (hq : LR u q w) (hw : LWF w) (h38 : gI u 9 0 38 = 0) (h39 : gI u 9 0 39 = 0) (h40 : gI u 9 0 40 = 1) {t τ : Nat} (ht : t < sT c) (hτ : τ < 300) : ∃ u', mX9_gets_L120 (nI τ) (nI q) (nI l) (nI t) (fun x v => some (x, v)) FU 0 0 u = some (suS w (fun τ => nmS c tk kn E 0 0 1 (nI t) τ) (hrS c E (nI t)) 0 (τ + 1) 0, u') ∧ Fr [78, 79] [] u u' := by
  refine loopR (fun fu (a : Int32 × HS) y => mX9_gets_L120 (nI τ) (nI q) (nI l) (nI t) (fun x v => some (x, v)) fu a.1 y a.2) (τ + 1) 0 (fun k a => a.1 = suS w (fun τ => nmS c tk kn E 0 0 1 (nI t) τ) (hrS c E (nI t)) 0 k 0 ∧ Fr [78, 79] [] u a.2) (fun o => ∃ u', o = some (suS w (fun τ => nmS c tk kn E 0 0 1 (nI t) τ) (hrS c E (nI t)) 0 (τ + 1) 0, u') ∧ Fr [78, 79] [] u u') ?_ ?_ (τ + 1) 0 (0, u) FU (Nat.le_refl _) (by omega) (FU_lt (by omega)) ⟨rfl, Fr.rf⟩
  · intro fu ⟨x, a⟩ k _ hk ⟨hx, hF⟩ ih
    show ∃ u', mX9_gets_L120 (nI τ) (nI q) (nI l) (nI t) (fun x v => some (x, v)) (fu + 1) x (nI k) a = _ ∧ _
    have hF' : Fr [78, 79] [] u a := hF
    have f38 : gI a 9 0 38 = 0 := (hF'.2.1 38 (by simp)).trans h38
    have f39 : gI a 9 0 39 = 0 := (hF'.2.1 39 (by simp)).trans h39
    have f40 : gI a 9 0 40 = 1 := (hF'.2.1 40 (by simp)).trans h40
    obtain ⟨a1, e1, hF1, -⟩ := rGetsIn (h.fr hF' (by decide) (by decide)) (hq.fr hF' (by decide)) hw (by rw [f40]; decide) ht (show k < 300 by omega)
    rw [f38, f39, f40] at e1
    rw [mX9_gets_L120.eq_2, if_neg (nI_nlt (by omega) (by omega)), e1]
    simp only [ob_q, bd_q, nI_1]
    refine ih (_, a1) ⟨?_, hF'.tr hF1⟩
    show x + _ = _
    rw [suS_succ, Nat.zero_add, ← hx]
  · intro fu ⟨x, a⟩ ⟨hx, hF⟩
    show ∃ u', mX9_gets_L120 (nI τ) (nI q) (nI l) (nI t) (fun x v => some (x, v)) (fu + 1) x (nI (τ + 1)) a = _ ∧ _
    rw [mX9_gets_L120.eq_2, if_pos (nI_lt (by omega) (by omega))]
    exact ⟨a, by rw [show x = _ from hx], hF⟩
theorem Fs.qf {u v : HS} (h : Fs u v) : QF u v := h.1.qf (by decide)
theorem Fs.g54 {u v : HS} (h : Fs u v) : gI v 54 = gI u 54 := h.1.m1 (by decide) (by decide)
theorem IVc.law {p : IP} {u : HS} (h : IVc p u) {q : Nat} (hq : q < pNl p) : LR u q (pW p q) ∧ LC u q (pW p q) ∧ LWF (pW p q) := h.2.2.2.2.1 q hq
theorem LC.fvw {u v : HS} {q : Nat} {w : LT} (h : LC u q w) (f : Fvw [4, 7, 46, 47] u v) : LC v q w := h.eq (f.m1 (by decide) (by decide)) (f.m1 (by decide) (by decide)) (f.m1 (by decide) (by decide)) (f.m1 (by decide) (by decide)) (f.m1 (by decide) (by decide)) (f.m1 (by decide) (by decide))
theorem z3 : ((-1 : Int32) = -1 ∧ (0 : Int32) = 0) ∨ ((-1 : Int32) ≠ -1 ∧ (-1 : Int32) = 0 ∧ ¬ (0 : Int32) ≤ 0) := Or.inl ⟨rfl, rfl⟩
-- on
set_option maxHeartbeats 2000000 in
theorem s_on (x1 x2 : Int32) : Step [1] (fun u => mX8_on u x1 x2) (fun u => mX9_on u x1 x2) := by
  intro u hI
  have ⟨p, h, hv⟩ := hI
  have hw := w0c h
  have n6 := h.1.1.1
  have t6 := h.1.1.2.1
  have q4 := h.1.1.2.2.1
  have n14 := h.2.2.2.2.2.1.2.1.1.1
  cases b1 : inB x1 (pN p) with
  | false =>
    refine Step.bad hI (k := 1) (v := 0) (b := 0) (c := 1) ?_ ?_ (by decide)
    · unfold mX8_on; simp only [bd_q, jp_q, ob_q, on_q, if_true, if_false, Bool.false_eq_true, Bool.true_eq_false, Bool.not_true, Bool.not_false, pr99, pr9, pr8, cReqS h, cReqT h, cReqQ h, cReqL h, cReqB, cReq0, cReq1, cTenthB, cAskB, cFitB, xqz, xq1, xq2, xq3, pl2, pl3, pl4, pl5, pl14, pl40, pl50, pl100, pl999, pe3, pe11, pe30, pe40, pe300, bI_if, bI_0, b1]
    · show mX9_on u x1 x2 = _
      unfold mX9_on; simp only [bd_q, jp_q, ob_q, on_q, if_true, if_false, Bool.false_eq_true, Bool.true_eq_false, Bool.not_true, Bool.not_false, ir99, ir9, ir8, w0e, rIsS hw, rIsT hw, rIsQ hw, rIsL hw, rBad w00 _ (show (1 : Int32) ≠ 0 by decide), rBad w00 _ (show (2 : Int32) ≠ 0 by decide), rBad w00 _ (show (3 : Int32) ≠ 0 by decide), rBad1 w00 (show (1 : Int32) ≠ 0 by decide), rBad1 w00 (show (2 : Int32) ≠ 0 by decide), rBad1 w00 (show (3 : Int32) ≠ 0 by decide), rBad0 w00 (show (1 : Int32) ≠ 0 by decide), rBad0 w00 (show (2 : Int32) ≠ 0 by decide), rBad0 w00 (show (3 : Int32) ≠ 0 by decide), e10, in2, in3, in4, in5, in10, in14, in29, in39, in40, in50, in100, in299, in999, bI_nn, bI_0, b1]
  | true =>
  obtain ⟨l, hl, rfl⟩ := inB_t (by omega) b1
  obtain ⟨l14, ls, lt, l0, l1, l2, l3, lf⟩ := h.lk hl
  have ls6 : loS u l < 6 := by omega
  obtain ⟨r, s2⟩ := h.2.2.1 _ ls
  have hc := s2.1.2.1
  have hT8 := s2.1.2.2.2
  have s3 := s2
  obtain ⟨-, ⟨a0, a1, a2, a3, a4, a5, a6⟩, -⟩ := s3
  have hy := hw.ly hl
  have hqf := QF.w0 (u := u) (c := 0)
  rw [w0e] at hqf
  have hlo := hqf.lo (p := p) 0 l
  rw [hlo.1, hlo.2.1, hqf.2.1, hlo.2.2.1] at hy
  have rT : ∀ x, mX9_isThing (w0 u) (nI l) x = some (bI (inB x (sT (pC p (loS u l))))) := fun x => by rw [rThing hw hl x, hlo.1]
  cases b2 : inB x2 41 with
  | false =>
    refine Step.bad hI (k := 1) (v := 0) (b := 0) (c := 1) ?_ ?_ (by decide)
    · unfold mX8_on; simp only [bd_q, jp_q, ob_q, on_q, if_true, if_false, Bool.false_eq_true, Bool.true_eq_false, Bool.not_true, Bool.not_false, pr99, pr9, pr8, cReqS h, cReqT h, cReqQ h, cReqL h, cReqB, cReq0, cReq1, cTenthB, cAskB, cFitB, xqz, xq1, xq2, xq3, pl2, pl3, pl4, pl5, pl14, pl40, pl50, pl100, pl999, pe3, pe11, pe30, pe40, pe300, bI_if, bI_0, b1, b2]
    · show mX9_on u (nI l) x2 = _
      unfold mX9_on; simp only [bd_q, jp_q, ob_q, on_q, if_true, if_false, Bool.false_eq_true, Bool.true_eq_false, Bool.not_true, Bool.not_false, ir99, ir9, ir8, w0e, rIsS hw, rIsT hw, rIsQ hw, rIsL hw, rBad w00 _ (show (1 : Int32) ≠ 0 by decide), rBad w00 _ (show (2 : Int32) ≠ 0 by decide), rBad w00 _ (show (3 : Int32) ≠ 0 by decide), rBad1 w00 (show (1 : Int32) ≠ 0 by decide), rBad1 w00 (show (2 : Int32) ≠ 0 by decide), rBad1 w00 (show (3 : Int32) ≠ 0 by decide), rBad0 w00 (show (1 : Int32) ≠ 0 by decide), rBad0 w00 (show (2 : Int32) ≠ 0 by decide), rBad0 w00 (show (3 : Int32) ≠ 0 by decide), e10, in2, in3, in4, in5, in10, in14, in29, in39, in40, in50, in100, in299, in999, bI_nn, bI_0, b1, b2]
  | true =>
  obtain ⟨d, hd, rfl⟩ := inB_t (by decide) b2
  obtain ⟨e, he3, he⟩ := endS_nI hc
  obtain ⟨u1, e1, f1, hV, v43, v45⟩ := h.look hl he3
  have q1 := f1.qf (by decide)
  have hv1 : IVs p u1 := q1.s (f1.m1 (by decide) (by decide)) hv
  obtain ⟨hw1, hy1, m38, m39, m40⟩ := ref_ctx h q1 hl
  obtain ⟨s', hs', e81⟩ := hy1.1.rs
  have h99 : ¬ (99 : Int32) ≤ nI d := nI_ge (b := 99) (by omega) (by decide)
  refine Step.ask h (u1 := u1) (u2 := w0 u1) (v := if oddS (pC p (loS u l)) = -1 then 0 else twS (pC p (loS u l)) (loE p u l) (oddS (pC p (loS u l))) (nI d) e) ?_ ?_ q1 hv1 QF.w0 w054 w00
  · unfold mX8_on; simp only [bd_q, jp_q, ob_q, on_q, if_true, if_false, Bool.false_eq_true, Bool.true_eq_false, Bool.not_true, Bool.not_false, pr99, pr9, pr8, cReqS h, cReqT h, cReqQ h, cReqL h, cReqB, cReq0, cReq1, cTenthB, cAskB, cFitB, xqz, xq1, xq2, xq3, pl2, pl3, pl4, pl5, pl14, pl40, pl50, pl100, pl999, pe3, pe11, pe30, pe40, pe300, bI_if, bI_0, b1, b2, h.sceneFor hl, a6, he, e1, cWithin hV he (nI d) h99]
  · show mX9_on u1 (nI l) (nI d) = _
    have hw := hw1
    unfold mX9_on; simp only [bd_q, jp_q, ob_q, on_q, if_true, if_false, Bool.false_eq_true, Bool.true_eq_false, Bool.not_true, Bool.not_false, ir99, ir9, ir8, w0e, rIsS hw, rIsT hw, rIsQ hw, rIsL hw, rBad w00 _ (show (1 : Int32) ≠ 0 by decide), rBad w00 _ (show (2 : Int32) ≠ 0 by decide), rBad w00 _ (show (3 : Int32) ≠ 0 by decide), rBad1 w00 (show (1 : Int32) ≠ 0 by decide), rBad1 w00 (show (2 : Int32) ≠ 0 by decide), rBad1 w00 (show (3 : Int32) ≠ 0 by decide), rBad0 w00 (show (1 : Int32) ≠ 0 by decide), rBad0 w00 (show (2 : Int32) ≠ 0 by decide), rBad0 w00 (show (3 : Int32) ≠ 0 by decide), e10, in2, in3, in4, in5, in10, in14, in29, in39, in40, in50, in100, in299, in999, bI_nn, bI_0, b1, b2, ck_nI (show l < 15 by omega) (show 15 < 2 ^ 31 by decide), c8_0, e81, rOdd hs', rOnL hy1.1 m39 he he3 (nI d)]
-- name
set_option maxHeartbeats 2000000 in
theorem s_name (x1 x2 x3 x4 : Int32) : Step [1] (fun u => mX8_name u x1 x2 x3 x4) (fun u => mX9_name u x1 x2 x3 x4) := by
  intro u hI
  have ⟨p, h, hv⟩ := hI
  have hw := w0c h
  have n6 := h.1.1.1
  have t6 := h.1.1.2.1
  have q4 := h.1.1.2.2.1
  have n14 := h.2.2.2.2.2.1.2.1.1.1
  cases b1 : inB x1 (pN p) with
  | false =>
    refine Step.bad hI (k := 1) (v := 0) (b := 0) (c := 1) ?_ ?_ (by decide)
    · unfold mX8_name; simp only [bd_q, jp_q, ob_q, on_q, if_true, if_false, Bool.false_eq_true, Bool.true_eq_false, Bool.not_true, Bool.not_false, pr99, pr9, pr8, cReqS h, cReqT h, cReqQ h, cReqL h, cReqB, cReq0, cReq1, cTenthB, cAskB, cFitB, xqz, xq1, xq2, xq3, pl2, pl3, pl4, pl5, pl14, pl40, pl50, pl100, pl999, pe3, pe11, pe30, pe40, pe300, bI_if, bI_0, b1]
    · show mX9_name u x1 x2 x3 x4 = _
      unfold mX9_name; simp only [bd_q, jp_q, ob_q, on_q, if_true, if_false, Bool.false_eq_true, Bool.true_eq_false, Bool.not_true, Bool.not_false, ir99, ir9, ir8, w0e, rIsS hw, rIsT hw, rIsQ hw, rIsL hw, rBad w00 _ (show (1 : Int32) ≠ 0 by decide), rBad w00 _ (show (2 : Int32) ≠ 0 by decide), rBad w00 _ (show (3 : Int32) ≠ 0 by decide), rBad1 w00 (show (1 : Int32) ≠ 0 by decide), rBad1 w00 (show (2 : Int32) ≠ 0 by decide), rBad1 w00 (show (3 : Int32) ≠ 0 by decide), rBad0 w00 (show (1 : Int32) ≠ 0 by decide), rBad0 w00 (show (2 : Int32) ≠ 0 by decide), rBad0 w00 (show (3 : Int32) ≠ 0 by decide), e10, in2, in3, in4, in5, in10, in14, in29, in39, in40, in50, in100, in299, in999, bI_nn, bI_0, b1]
  | true =>
  obtain ⟨l, hl, rfl⟩ := inB_t (by omega) b1
  obtain ⟨l14, ls, lt, l0, l1, l2, l3, lf⟩ := h.lk hl
  have ls6 : loS u l < 6 := by omega
  obtain ⟨r, s2⟩ := h.2.2.1 _ ls
  have hc := s2.1.2.1
  have hT8 := s2.1.2.2.2
  have s3 := s2
  obtain ⟨-, ⟨a0, a1, a2, a3, a4, a5, a6⟩, -⟩ := s3
  have hy := hw.ly hl
  have hqf := QF.w0 (u := u) (c := 0)
  rw [w0e] at hqf
  have hlo := hqf.lo (p := p) 0 l
  rw [hlo.1, hlo.2.1, hqf.2.1, hlo.2.2.1] at hy
  have rT : ∀ x, mX9_isThing (w0 u) (nI l) x = some (bI (inB x (sT (pC p (loS u l))))) := fun x => by rw [rThing hw hl x, hlo.1]
  cases b2 : inB x2 (sT (pC p (loS u l))) with
  | false =>
    refine Step.bad hI (k := 1) (v := 0) (b := 0) (c := 1) ?_ ?_ (by decide)
    · unfold mX8_name; simp only [bd_q, jp_q, ob_q, on_q, if_true, if_false, Bool.false_eq_true, Bool.true_eq_false, Bool.not_true, Bool.not_false, pr99, pr9, pr8, cReqS h, cReqT h, cReqQ h, cReqL h, cReqB, cReq0, cReq1, cTenthB, cAskB, cFitB, xqz, xq1, xq2, xq3, pl2, pl3, pl4, pl5, pl14, pl40, pl50, pl100, pl999, pe3, pe11, pe30, pe40, pe300, bI_if, bI_0, b1, b2, h.sceneFor hl, a0, pc1, rT]
    · show mX9_name u (nI l) x2 x3 x4 = _
      unfold mX9_name; simp only [bd_q, jp_q, ob_q, on_q, if_true, if_false, Bool.false_eq_true, Bool.true_eq_false, Bool.not_true, Bool.not_false, ir99, ir9, ir8, w0e, rIsS hw, rIsT hw, rIsQ hw, rIsL hw, rBad w00 _ (show (1 : Int32) ≠ 0 by decide), rBad w00 _ (show (2 : Int32) ≠ 0 by decide), rBad w00 _ (show (3 : Int32) ≠ 0 by decide), rBad1 w00 (show (1 : Int32) ≠ 0 by decide), rBad1 w00 (show (2 : Int32) ≠ 0 by decide), rBad1 w00 (show (3 : Int32) ≠ 0 by decide), rBad0 w00 (show (1 : Int32) ≠ 0 by decide), rBad0 w00 (show (2 : Int32) ≠ 0 by decide), rBad0 w00 (show (3 : Int32) ≠ 0 by decide), e10, in2, in3, in4, in5, in10, in14, in29, in39, in40, in50, in100, in299, in999, bI_nn, bI_0, b1, b2, h.sceneFor hl, a0, pc1, rT]
  | true =>
  obtain ⟨t, ht, rfl⟩ := inB_t (by omega) b2
  cases b3 : inB x3 300 with
  | false =>
    refine Step.bad hI (k := 1) (v := 0) (b := 0) (c := 1) ?_ ?_ (by decide)
    · unfold mX8_name; simp only [bd_q, jp_q, ob_q, on_q, if_true, if_false, Bool.false_eq_true, Bool.true_eq_false, Bool.not_true, Bool.not_false, pr99, pr9, pr8, cReqS h, cReqT h, cReqQ h, cReqL h, cReqB, cReq0, cReq1, cTenthB, cAskB, cFitB, xqz, xq1, xq2, xq3, pl2, pl3, pl4, pl5, pl14, pl40, pl50, pl100, pl999, pe3, pe11, pe30, pe40, pe300, bI_if, bI_0, b1, b2, b3, h.sceneFor hl, a0, pc1, rT]
    · show mX9_name u (nI l) (nI t) x3 x4 = _
      unfold mX9_name; simp only [bd_q, jp_q, ob_q, on_q, if_true, if_false, Bool.false_eq_true, Bool.true_eq_false, Bool.not_true, Bool.not_false, ir99, ir9, ir8, w0e, rIsS hw, rIsT hw, rIsQ hw, rIsL hw, rBad w00 _ (show (1 : Int32) ≠ 0 by decide), rBad w00 _ (show (2 : Int32) ≠ 0 by decide), rBad w00 _ (show (3 : Int32) ≠ 0 by decide), rBad1 w00 (show (1 : Int32) ≠ 0 by decide), rBad1 w00 (show (2 : Int32) ≠ 0 by decide), rBad1 w00 (show (3 : Int32) ≠ 0 by decide), rBad0 w00 (show (1 : Int32) ≠ 0 by decide), rBad0 w00 (show (2 : Int32) ≠ 0 by decide), rBad0 w00 (show (3 : Int32) ≠ 0 by decide), e10, in2, in3, in4, in5, in10, in14, in29, in39, in40, in50, in100, in299, in999, bI_nn, bI_0, b1, b2, b3, h.sceneFor hl, a0, pc1, rT]
  | true =>
  obtain ⟨τ, hτ, rfl⟩ := inB_t (by decide) b3
  cases b4 : inB x4 11 with
  | false =>
    refine Step.bad hI (k := 1) (v := 0) (b := 0) (c := 1) ?_ ?_ (by decide)
    · unfold mX8_name; simp only [bd_q, jp_q, ob_q, on_q, if_true, if_false, Bool.false_eq_true, Bool.true_eq_false, Bool.not_true, Bool.not_false, pr99, pr9, pr8, cReqS h, cReqT h, cReqQ h, cReqL h, cReqB, cReq0, cReq1, cTenthB, cAskB, cFitB, xqz, xq1, xq2, xq3, pl2, pl3, pl4, pl5, pl14, pl40, pl50, pl100, pl999, pe3, pe11, pe30, pe40, pe300, bI_if, bI_0, b1, b2, b3, b4, h.sceneFor hl, a0, pc1, rT]
    · show mX9_name u (nI l) (nI t) (nI τ) x4 = _
      unfold mX9_name; simp only [bd_q, jp_q, ob_q, on_q, if_true, if_false, Bool.false_eq_true, Bool.true_eq_false, Bool.not_true, Bool.not_false, ir99, ir9, ir8, w0e, rIsS hw, rIsT hw, rIsQ hw, rIsL hw, rBad w00 _ (show (1 : Int32) ≠ 0 by decide), rBad w00 _ (show (2 : Int32) ≠ 0 by decide), rBad w00 _ (show (3 : Int32) ≠ 0 by decide), rBad1 w00 (show (1 : Int32) ≠ 0 by decide), rBad1 w00 (show (2 : Int32) ≠ 0 by decide), rBad1 w00 (show (3 : Int32) ≠ 0 by decide), rBad0 w00 (show (1 : Int32) ≠ 0 by decide), rBad0 w00 (show (2 : Int32) ≠ 0 by decide), rBad0 w00 (show (3 : Int32) ≠ 0 by decide), e10, in2, in3, in4, in5, in10, in14, in29, in39, in40, in50, in100, in299, in999, bI_nn, bI_0, b1, b2, b3, b4, h.sceneFor hl, a0, pc1, rT]
  | true =>
  obtain ⟨w, hw0, rfl⟩ := inB_t (by decide) b4
  obtain ⟨u1, e1, f1, hV, v43, v45⟩ := h.look hl hτ
  have q1 := f1.qf (by decide)
  have hv1 : IVs p u1 := q1.s (f1.m1 (by decide) (by decide)) hv
  obtain ⟨hw1, hy1, m38, m39, m40⟩ := ref_ctx h q1 hl
  obtain ⟨u2, e2, f2, r2', -, -, n2⟩ := cRegard hV (by decide) z3 ht (Nat.le_refl τ)
  have q2 := f2.qf (by decide)
  obtain ⟨hw2, hy2, m38, m39, m40⟩ := ref_ctx h (q1.tr q2) hl
  obtain ⟨u3, e3, f3, n3⟩ := rNames hy2.1 (by rw [m40]; decide) ht (nI τ)
  rw [m38, m39, m40] at n3
  have hv2 : IVs p u2 := q2.s (f2.m1 (by decide) (by decide)) hv1
  have rT2 := rThing2 h (q1.tr q2) hl
  refine Step.ask h (u1 := u2) (u2 := u3) (v := nmS (pC p (loS u l)) (pT p (loT u l)) (lkF u l 2) (loE p u l) 0 0 1 (nI t) (nI τ) w) ?_ ?_ (q1.tr q2) hv2 (QF.w0.tr (f3.qf (by decide) (by decide))) (by rw [f3.m1 (by decide) (by decide), w054]) (by rw [f3.2.1 0 (by simp), w00])
  · unfold mX8_name; simp only [bd_q, jp_q, ob_q, on_q, if_true, if_false, Bool.false_eq_true, Bool.true_eq_false, Bool.not_true, Bool.not_false, pr99, pr9, pr8, cReqS h, cReqT h, cReqQ h, cReqL h, cReqB, cReq0, cReq1, cTenthB, cAskB, cFitB, xqz, xq1, xq2, xq3, pl2, pl3, pl4, pl5, pl14, pl40, pl50, pl100, pl999, pe3, pe11, pe30, pe40, pe300, bI_if, bI_0, b1, b2, b3, b4, h.sceneFor hl, a0, pc1, rT, h.sceneFor hl, a0, pc1, e1, e2, ck_nI hw0 (show 11 < 2 ^ 31 by decide), n2 w hw0]
  · show mX9_name u2 (nI l) (nI t) (nI τ) (nI w) = _
    have hw := hw2
    unfold mX9_name; simp only [bd_q, jp_q, ob_q, on_q, if_true, if_false, Bool.false_eq_true, Bool.true_eq_false, Bool.not_true, Bool.not_false, ir99, ir9, ir8, w0e, rIsS hw, rIsT hw, rIsQ hw, rIsL hw, rBad w00 _ (show (1 : Int32) ≠ 0 by decide), rBad w00 _ (show (2 : Int32) ≠ 0 by decide), rBad w00 _ (show (3 : Int32) ≠ 0 by decide), rBad1 w00 (show (1 : Int32) ≠ 0 by decide), rBad1 w00 (show (2 : Int32) ≠ 0 by decide), rBad1 w00 (show (3 : Int32) ≠ 0 by decide), rBad0 w00 (show (1 : Int32) ≠ 0 by decide), rBad0 w00 (show (2 : Int32) ≠ 0 by decide), rBad0 w00 (show (3 : Int32) ≠ 0 by decide), e10, in2, in3, in4, in5, in10, in14, in29, in39, in40, in50, in100, in299, in999, bI_nn, bI_0, b1, b2, b3, b4, h.sceneFor hl, a0, pc1, rT, rT2, e3, ck_nI hw0 (show 11 < 2 ^ 31 by decide), n3 w hw0]
-- gets
set_option maxHeartbeats 2000000 in
theorem s_gets (x1 x2 x3 x4 x5 : Int32) : Step [3, 1] (fun u => mX8_gets u x1 x2 x3 x4 x5) (fun u => mX9_gets u x1 x2 x3 x4 x5) := by
  intro u hI
  have ⟨p, h, hv⟩ := hI
  have hw := w0c h
  have n6 := h.1.1.1
  have t6 := h.1.1.2.1
  have q4 := h.1.1.2.2.1
  have n14 := h.2.2.2.2.2.1.2.1.1.1
  cases b1 : inB x1 (pNl p) with
  | false =>
    refine Step.bad hI (k := 3) (v := 0) (b := 0) (c := 1) ?_ ?_ (by decide)
    · unfold mX8_gets; simp only [bd_q, jp_q, ob_q, on_q, if_true, if_false, Bool.false_eq_true, Bool.true_eq_false, Bool.not_true, Bool.not_false, pr99, pr9, pr8, cReqS h, cReqT h, cReqQ h, cReqL h, cReqB, cReq0, cReq1, cTenthB, cAskB, cFitB, xqz, xq1, xq2, xq3, pl2, pl3, pl4, pl5, pl14, pl40, pl50, pl100, pl999, pe3, pe11, pe30, pe40, pe300, bI_if, bI_0, b1]
    · show mX9_gets u x1 x2 x3 x4 x5 = _
      unfold mX9_gets; simp only [bd_q, jp_q, ob_q, on_q, if_true, if_false, Bool.false_eq_true, Bool.true_eq_false, Bool.not_true, Bool.not_false, ir99, ir9, ir8, w0e, rIsS hw, rIsT hw, rIsQ hw, rIsL hw, rBad w00 _ (show (1 : Int32) ≠ 0 by decide), rBad w00 _ (show (2 : Int32) ≠ 0 by decide), rBad w00 _ (show (3 : Int32) ≠ 0 by decide), rBad1 w00 (show (1 : Int32) ≠ 0 by decide), rBad1 w00 (show (2 : Int32) ≠ 0 by decide), rBad1 w00 (show (3 : Int32) ≠ 0 by decide), rBad0 w00 (show (1 : Int32) ≠ 0 by decide), rBad0 w00 (show (2 : Int32) ≠ 0 by decide), rBad0 w00 (show (3 : Int32) ≠ 0 by decide), e10, in2, in3, in4, in5, in10, in14, in29, in39, in40, in50, in100, in299, in999, bI_nn, bI_0, b1]
  | true =>
  obtain ⟨q, hq, rfl⟩ := inB_t (by omega) b1
  obtain ⟨lr, lc, lw⟩ := h.law hq
  cases b2 : inB x2 (pN p) with
  | false =>
    refine Step.bad hI (k := 1) (v := 0) (b := 0) (c := 2) ?_ ?_ (by decide)
    · unfold mX8_gets; simp only [bd_q, jp_q, ob_q, on_q, if_true, if_false, Bool.false_eq_true, Bool.true_eq_false, Bool.not_true, Bool.not_false, pr99, pr9, pr8, cReqS h, cReqT h, cReqQ h, cReqL h, cReqB, cReq0, cReq1, cTenthB, cAskB, cFitB, xqz, xq1, xq2, xq3, pl2, pl3, pl4, pl5, pl14, pl40, pl50, pl100, pl999, pe3, pe11, pe30, pe40, pe300, bI_if, bI_0, b1, b2]
    · show mX9_gets u (nI q) x2 x3 x4 x5 = _
      unfold mX9_gets; simp only [bd_q, jp_q, ob_q, on_q, if_true, if_false, Bool.false_eq_true, Bool.true_eq_false, Bool.not_true, Bool.not_false, ir99, ir9, ir8, w0e, rIsS hw, rIsT hw, rIsQ hw, rIsL hw, rBad w00 _ (show (1 : Int32) ≠ 0 by decide), rBad w00 _ (show (2 : Int32) ≠ 0 by decide), rBad w00 _ (show (3 : Int32) ≠ 0 by decide), rBad1 w00 (show (1 : Int32) ≠ 0 by decide), rBad1 w00 (show (2 : Int32) ≠ 0 by decide), rBad1 w00 (show (3 : Int32) ≠ 0 by decide), rBad0 w00 (show (1 : Int32) ≠ 0 by decide), rBad0 w00 (show (2 : Int32) ≠ 0 by decide), rBad0 w00 (show (3 : Int32) ≠ 0 by decide), e10, in2, in3, in4, in5, in10, in14, in29, in39, in40, in50, in100, in299, in999, bI_nn, bI_0, b1, b2]
  | true =>
  obtain ⟨l, hl, rfl⟩ := inB_t (by omega) b2
  obtain ⟨l14, ls, lt, l0, l1, l2, l3, lf⟩ := h.lk hl
  have ls6 : loS u l < 6 := by omega
  obtain ⟨r, s2⟩ := h.2.2.1 _ ls
  have hc := s2.1.2.1
  have hT8 := s2.1.2.2.2
  have s3 := s2
  obtain ⟨-, ⟨a0, a1, a2, a3, a4, a5, a6⟩, -⟩ := s3
  have hy := hw.ly hl
  have hqf := QF.w0 (u := u) (c := 0)
  rw [w0e] at hqf
  have hlo := hqf.lo (p := p) 0 l
  rw [hlo.1, hlo.2.1, hqf.2.1, hlo.2.2.1] at hy
  have rT : ∀ x, mX9_isThing (w0 u) (nI l) x = some (bI (inB x (sT (pC p (loS u l))))) := fun x => by rw [rThing hw hl x, hlo.1]
  cases b3 : inB x3 (sT (pC p (loS u l))) with
  | false =>
    refine Step.bad hI (k := 1) (v := 0) (b := 0) (c := 2) ?_ ?_ (by decide)
    · unfold mX8_gets; simp only [bd_q, jp_q, ob_q, on_q, if_true, if_false, Bool.false_eq_true, Bool.true_eq_false, Bool.not_true, Bool.not_false, pr99, pr9, pr8, cReqS h, cReqT h, cReqQ h, cReqL h, cReqB, cReq0, cReq1, cTenthB, cAskB, cFitB, xqz, xq1, xq2, xq3, pl2, pl3, pl4, pl5, pl14, pl40, pl50, pl100, pl999, pe3, pe11, pe30, pe40, pe300, bI_if, bI_0, b1, b2, b3, h.sceneFor hl, a0, pc1, rT]
    · show mX9_gets u (nI q) (nI l) x3 x4 x5 = _
      unfold mX9_gets; simp only [bd_q, jp_q, ob_q, on_q, if_true, if_false, Bool.false_eq_true, Bool.true_eq_false, Bool.not_true, Bool.not_false, ir99, ir9, ir8, w0e, rIsS hw, rIsT hw, rIsQ hw, rIsL hw, rBad w00 _ (show (1 : Int32) ≠ 0 by decide), rBad w00 _ (show (2 : Int32) ≠ 0 by decide), rBad w00 _ (show (3 : Int32) ≠ 0 by decide), rBad1 w00 (show (1 : Int32) ≠ 0 by decide), rBad1 w00 (show (2 : Int32) ≠ 0 by decide), rBad1 w00 (show (3 : Int32) ≠ 0 by decide), rBad0 w00 (show (1 : Int32) ≠ 0 by decide), rBad0 w00 (show (2 : Int32) ≠ 0 by decide), rBad0 w00 (show (3 : Int32) ≠ 0 by decide), e10, in2, in3, in4, in5, in10, in14, in29, in39, in40, in50, in100, in299, in999, bI_nn, bI_0, b1, b2, b3, h.sceneFor hl, a0, pc1, rT]
  | true =>
  obtain ⟨t, ht, rfl⟩ := inB_t (by omega) b3
  cases b4 : inB x4 300 with
  | false =>
    refine Step.bad hI (k := 1) (v := 0) (b := 0) (c := 2) ?_ ?_ (by decide)
    · unfold mX8_gets; simp only [bd_q, jp_q, ob_q, on_q, if_true, if_false, Bool.false_eq_true, Bool.true_eq_false, Bool.not_true, Bool.not_false, pr99, pr9, pr8, cReqS h, cReqT h, cReqQ h, cReqL h, cReqB, cReq0, cReq1, cTenthB, cAskB, cFitB, xqz, xq1, xq2, xq3, pl2, pl3, pl4, pl5, pl14, pl40, pl50, pl100, pl999, pe3, pe11, pe30, pe40, pe300, bI_if, bI_0, b1, b2, b3, b4, h.sceneFor hl, a0, pc1, rT]
    · show mX9_gets u (nI q) (nI l) (nI t) x4 x5 = _
      unfold mX9_gets; simp only [bd_q, jp_q, ob_q, on_q, if_true, if_false, Bool.false_eq_true, Bool.true_eq_false, Bool.not_true, Bool.not_false, ir99, ir9, ir8, w0e, rIsS hw, rIsT hw, rIsQ hw, rIsL hw, rBad w00 _ (show (1 : Int32) ≠ 0 by decide), rBad w00 _ (show (2 : Int32) ≠ 0 by decide), rBad w00 _ (show (3 : Int32) ≠ 0 by decide), rBad1 w00 (show (1 : Int32) ≠ 0 by decide), rBad1 w00 (show (2 : Int32) ≠ 0 by decide), rBad1 w00 (show (3 : Int32) ≠ 0 by decide), rBad0 w00 (show (1 : Int32) ≠ 0 by decide), rBad0 w00 (show (2 : Int32) ≠ 0 by decide), rBad0 w00 (show (3 : Int32) ≠ 0 by decide), e10, in2, in3, in4, in5, in10, in14, in29, in39, in40, in50, in100, in299, in999, bI_nn, bI_0, b1, b2, b3, b4, h.sceneFor hl, a0, pc1, rT]
  | true =>
  obtain ⟨τ, hτ, rfl⟩ := inB_t (by decide) b4
  cases b5 : inB x5 3 with
  | false =>
    refine Step.bad hI (k := 1) (v := 0) (b := 0) (c := 2) ?_ ?_ (by decide)
    · unfold mX8_gets; simp only [bd_q, jp_q, ob_q, on_q, if_true, if_false, Bool.false_eq_true, Bool.true_eq_false, Bool.not_true, Bool.not_false, pr99, pr9, pr8, cReqS h, cReqT h, cReqQ h, cReqL h, cReqB, cReq0, cReq1, cTenthB, cAskB, cFitB, xqz, xq1, xq2, xq3, pl2, pl3, pl4, pl5, pl14, pl40, pl50, pl100, pl999, pe3, pe11, pe30, pe40, pe300, bI_if, bI_0, b1, b2, b3, b4, b5, h.sceneFor hl, a0, pc1, rT]
    · show mX9_gets u (nI q) (nI l) (nI t) (nI τ) x5 = _
      unfold mX9_gets; simp only [bd_q, jp_q, ob_q, on_q, if_true, if_false, Bool.false_eq_true, Bool.true_eq_false, Bool.not_true, Bool.not_false, ir99, ir9, ir8, w0e, rIsS hw, rIsT hw, rIsQ hw, rIsL hw, rBad w00 _ (show (1 : Int32) ≠ 0 by decide), rBad w00 _ (show (2 : Int32) ≠ 0 by decide), rBad w00 _ (show (3 : Int32) ≠ 0 by decide), rBad1 w00 (show (1 : Int32) ≠ 0 by decide), rBad1 w00 (show (2 : Int32) ≠ 0 by decide), rBad1 w00 (show (3 : Int32) ≠ 0 by decide), rBad0 w00 (show (1 : Int32) ≠ 0 by decide), rBad0 w00 (show (2 : Int32) ≠ 0 by decide), rBad0 w00 (show (3 : Int32) ≠ 0 by decide), e10, in2, in3, in4, in5, in10, in14, in29, in39, in40, in50, in100, in299, in999, bI_nn, bI_0, b1, b2, b3, b4, b5, h.sceneFor hl, a0, pc1, rT]
  | true =>
  obtain ⟨w, hw0, rfl⟩ := inB_t (by decide) b5
  obtain ⟨u1, e1, f1, hV, v43, v45⟩ := h.look hl hτ
  have q1 := f1.qf (by decide)
  have hv1 : IVs p u1 := q1.s (f1.m1 (by decide) (by decide)) hv
  have lc1 := lc.fvw f1
  match w, hw0 with
  | 0, _ =>
    obtain ⟨u2, u3, e2, g2, -, -, -, e3, g3, -, -, -⟩ := cTenth hV lc1 lw (by decide) z3 ht (Nat.le_refl τ)
    have q3 := q1.tr g3.qf
    obtain ⟨hw1, hy1, m38, m39, m40⟩ := ref_ctx h q3 hl
    obtain ⟨u4, e4, f4, -⟩ := rGetsIn hy1 (hw1.law hq).1 lw (by rw [m40]; decide) ht hτ
    rw [m38, m39, m40] at e4
    refine Step.ask h (u1 := u3) (u2 := u4) (v := gnS (pW p q) (fun τ => nmS (pC p (loS u l)) (pT p (loT u l)) (lkF u l 2) (loE p u l) 0 0 1 (nI t) τ) (hrS (pC p (loS u l)) (loE p u l) (nI t)) (nI τ)) ?_ ?_ q3 (g3.qf.s g3.g54 hv1) (QF.w0.tr (f4.qf (by decide) (by decide))) (by rw [f4.m1 (by decide) (by decide), w054]) (by rw [f4.2.1 0 (by simp), w00])
    · unfold mX8_gets; simp only [bd_q, jp_q, ob_q, on_q, if_true, if_false, Bool.false_eq_true, Bool.true_eq_false, Bool.not_true, Bool.not_false, pr99, pr9, pr8, cReqS h, cReqT h, cReqQ h, cReqL h, cReqB, cReq0, cReq1, cTenthB, cAskB, cFitB, xqz, xq1, xq2, xq3, pl2, pl3, pl4, pl5, pl14, pl40, pl50, pl100, pl999, pe3, pe11, pe30, pe40, pe300, bI_if, bI_0, b1, b2, b3, b4, b5, h.sceneFor hl, a0, pc1, rT, e1, ck_nI (show q < 4 by omega) (show 4 < 2 ^ 31 by decide), e2, e3, show (nI 0 = 1) = False by decide, show (nI 0 = 0) = True by decide]
    · show mX9_gets u3 (nI q) (nI l) (nI t) (nI τ) (nI 0) = _
      have hw := hw1
      unfold mX9_gets; simp only [bd_q, jp_q, ob_q, on_q, if_true, if_false, Bool.false_eq_true, Bool.true_eq_false, Bool.not_true, Bool.not_false, ir99, ir9, ir8, w0e, rIsS hw, rIsT hw, rIsQ hw, rIsL hw, rBad w00 _ (show (1 : Int32) ≠ 0 by decide), rBad w00 _ (show (2 : Int32) ≠ 0 by decide), rBad w00 _ (show (3 : Int32) ≠ 0 by decide), rBad1 w00 (show (1 : Int32) ≠ 0 by decide), rBad1 w00 (show (2 : Int32) ≠ 0 by decide), rBad1 w00 (show (3 : Int32) ≠ 0 by decide), rBad0 w00 (show (1 : Int32) ≠ 0 by decide), rBad0 w00 (show (2 : Int32) ≠ 0 by decide), rBad0 w00 (show (3 : Int32) ≠ 0 by decide), e10, in2, in3, in4, in5, in10, in14, in29, in39, in40, in50, in100, in299, in999, bI_nn, bI_0, b1, b2, b3, b4, b5, h.sceneFor hl, a0, pc1, rT, rThing2 h q3 hl, e4, show (nI 0 = 0) = True by decide]
  | 1, _ =>
    obtain ⟨u3, e3, g3, -, s3⟩ := cAdd (u := wI u1 4 0 2 0) (hV.fs Fs.rf.w2) (lc1.fs Fs.rf.w2) lw (by decide) z3 ht (a := 0) (b := τ) (Nat.le_refl _) (by omega)
    have g3' : Fs u1 u3 := Fs.rf.w2.tr g3
    have q3 := q1.tr g3'.qf
    rw [gI_eq] at s3
    obtain ⟨hw1, hy1, m38, m39, m40⟩ := ref_ctx h q3 hl
    obtain ⟨u4, e4, f4⟩ := rSumL hy1 (hw1.law hq).1 lw m38 m39 m40 ht hτ
    refine Step.ask h (u1 := u3) (u2 := u4) (v := suS (pW p q) (fun τ => nmS (pC p (loS u l)) (pT p (loT u l)) (lkF u l 2) (loE p u l) 0 0 1 (nI t) τ) (hrS (pC p (loS u l)) (loE p u l) (nI t)) 0 (τ + 1) 0) ?_ ?_ q3 (g3'.qf.s g3'.g54 hv1) (QF.w0.tr (f4.qf (by decide) (by decide))) (by rw [f4.m1 (by decide) (by decide), w054]) (by rw [f4.2.1 0 (by simp), w00])
    · unfold mX8_gets mX4_sumTo; simp only [bd_q, jp_q, ob_q, on_q, if_true, if_false, Bool.false_eq_true, Bool.true_eq_false, Bool.not_true, Bool.not_false, pr99, pr9, pr8, cReqS h, cReqT h, cReqQ h, cReqL h, cReqB, cReq0, cReq1, cTenthB, cAskB, cFitB, xqz, xq1, xq2, xq3, pl2, pl3, pl4, pl5, pl14, pl40, pl50, pl100, pl999, pe3, pe11, pe30, pe40, pe300, bI_if, bI_0, b1, b2, b3, b4, b5, h.sceneFor hl, a0, pc1, rT, e1, ck_nI (show q < 4 by omega) (show 4 < 2 ^ 31 by decide), show (nI 1 = 1) = True by decide]
      rw [show mX4_addFrom (wI u1 4 0 2 0) q (nI t) 0 (nI τ) = some u3 from e3]
      simp only [ob_q, s3, Nat.sub_zero]
    · show mX9_gets u3 (nI q) (nI l) (nI t) (nI τ) (nI 1) = _
      have hw := hw1
      unfold mX9_gets; simp only [bd_q, jp_q, ob_q, on_q, if_true, if_false, Bool.false_eq_true, Bool.true_eq_false, Bool.not_true, Bool.not_false, ir99, ir9, ir8, w0e, rIsS hw, rIsT hw, rIsQ hw, rIsL hw, rBad w00 _ (show (1 : Int32) ≠ 0 by decide), rBad w00 _ (show (2 : Int32) ≠ 0 by decide), rBad w00 _ (show (3 : Int32) ≠ 0 by decide), rBad1 w00 (show (1 : Int32) ≠ 0 by decide), rBad1 w00 (show (2 : Int32) ≠ 0 by decide), rBad1 w00 (show (3 : Int32) ≠ 0 by decide), rBad0 w00 (show (1 : Int32) ≠ 0 by decide), rBad0 w00 (show (2 : Int32) ≠ 0 by decide), rBad0 w00 (show (3 : Int32) ≠ 0 by decide), e10, in2, in3, in4, in5, in10, in14, in29, in39, in40, in50, in100, in299, in999, bI_nn, bI_0, b1, b2, b3, b4, b5, h.sceneFor hl, a0, pc1, rT, rThing2 h q3 hl, e4, show (nI 1 = 1) = True by decide, show (nI 1 = 0) = False by decide]
  | 2, _ =>
    obtain ⟨u2, u3, e2, g2, -, -, n2, -, -, -, -, -⟩ := cTenth hV lc1 lw (by decide) z3 ht (Nat.le_refl τ)
    obtain ⟨u3, e3, f3⟩ := cLast (lc1.fs g2) lw n2 1 1 100000 100 (by decide)
    have g3 : Fs u1 u3 := g2.tr (Fs.of44 f3)
    have q3 := q1.tr g3.qf
    obtain ⟨hw1, hy1, m38, m39, m40⟩ := ref_ctx h q3 hl
    obtain ⟨u4, e4, f4, n4⟩ := rNames hy1.1 (by rw [m40]; decide) ht (nI τ)
    rw [m38, m39, m40] at n4
    obtain ⟨u5, e5, f5⟩ := rLast ((hw1.law hq).1.fr f4 (by decide)) lw n4 1 1 100000 100
    refine Step.ask h (u1 := u3) (u2 := u5) (v := lasS (pW p q) (nmS (pC p (loS u l)) (pT p (loT u l)) (lkF u l 2) (loE p u l) 0 0 1 (nI t) (nI τ)) 1 1 100000 100) ?_ ?_ q3 (g3.qf.s g3.g54 hv1) ((QF.w0.tr (f4.qf (by decide) (by decide))).tr (f5.qf (by decide) (by decide))) (by rw [f5.m1 (by decide) (by decide), f4.m1 (by decide) (by decide), w054]) (by rw [f5.2.1 0 (by simp), f4.2.1 0 (by simp), w00])
    · unfold mX8_gets mX4_lineNow; simp only [bd_q, jp_q, ob_q, on_q, if_true, if_false, Bool.false_eq_true, Bool.true_eq_false, Bool.not_true, Bool.not_false, pr99, pr9, pr8, cReqS h, cReqT h, cReqQ h, cReqL h, cReqB, cReq0, cReq1, cTenthB, cAskB, cFitB, xqz, xq1, xq2, xq3, pl2, pl3, pl4, pl5, pl14, pl40, pl50, pl100, pl999, pe3, pe11, pe30, pe40, pe300, bI_if, bI_0, b1, b2, b3, b4, b5, h.sceneFor hl, a0, pc1, rT, e1, ck_nI (show q < 4 by omega) (show 4 < 2 ^ 31 by decide), e2, e3, show (nI 2 = 1) = False by decide, show (nI 2 = 0) = False by decide]
    · show mX9_gets u3 (nI q) (nI l) (nI t) (nI τ) (nI 2) = _
      have hw := hw1
      unfold mX9_gets mX9_lineNow; simp only [bd_q, jp_q, ob_q, on_q, if_true, if_false, Bool.false_eq_true, Bool.true_eq_false, Bool.not_true, Bool.not_false, ir99, ir9, ir8, w0e, rIsS hw, rIsT hw, rIsQ hw, rIsL hw, rBad w00 _ (show (1 : Int32) ≠ 0 by decide), rBad w00 _ (show (2 : Int32) ≠ 0 by decide), rBad w00 _ (show (3 : Int32) ≠ 0 by decide), rBad1 w00 (show (1 : Int32) ≠ 0 by decide), rBad1 w00 (show (2 : Int32) ≠ 0 by decide), rBad1 w00 (show (3 : Int32) ≠ 0 by decide), rBad0 w00 (show (1 : Int32) ≠ 0 by decide), rBad0 w00 (show (2 : Int32) ≠ 0 by decide), rBad0 w00 (show (3 : Int32) ≠ 0 by decide), e10, in2, in3, in4, in5, in10, in14, in29, in39, in40, in50, in100, in299, in999, bI_nn, bI_0, b1, b2, b3, b4, b5, h.sceneFor hl, a0, pc1, rT, rThing2 h q3 hl, e4, e5, show (nI 2 = 1) = False by decide, show (nI 2 = 0) = False by decide]
-- seen
set_option maxHeartbeats 2000000 in
theorem s_seen (x1 x2 x3 : Int32) : Step [3, 1] (fun u => mX8_seen u x1 x2 x3) (fun u => mX9_seen u x1 x2 x3) := by
  intro u hI
  have ⟨p, h, hv⟩ := hI
  have hw := w0c h
  have n6 := h.1.1.1
  have t6 := h.1.1.2.1
  have q4 := h.1.1.2.2.1
  have n14 := h.2.2.2.2.2.1.2.1.1.1
  cases b1 : inB x1 (pNl p) with
  | false =>
    refine Step.bad hI (k := 3) (v := 0) (b := 0) (c := 1) ?_ ?_ (by decide)
    · unfold mX8_seen; simp only [bd_q, jp_q, ob_q, on_q, if_true, if_false, Bool.false_eq_true, Bool.true_eq_false, Bool.not_true, Bool.not_false, pr99, pr9, pr8, cReqS h, cReqT h, cReqQ h, cReqL h, cReqB, cReq0, cReq1, cTenthB, cAskB, cFitB, xqz, xq1, xq2, xq3, pl2, pl3, pl4, pl5, pl14, pl40, pl50, pl100, pl999, pe3, pe11, pe30, pe40, pe300, bI_if, bI_0, b1]
    · show mX9_seen u x1 x2 x3 = _
      unfold mX9_seen; simp only [bd_q, jp_q, ob_q, on_q, if_true, if_false, Bool.false_eq_true, Bool.true_eq_false, Bool.not_true, Bool.not_false, ir99, ir9, ir8, w0e, rIsS hw, rIsT hw, rIsQ hw, rIsL hw, rBad w00 _ (show (1 : Int32) ≠ 0 by decide), rBad w00 _ (show (2 : Int32) ≠ 0 by decide), rBad w00 _ (show (3 : Int32) ≠ 0 by decide), rBad1 w00 (show (1 : Int32) ≠ 0 by decide), rBad1 w00 (show (2 : Int32) ≠ 0 by decide), rBad1 w00 (show (3 : Int32) ≠ 0 by decide), rBad0 w00 (show (1 : Int32) ≠ 0 by decide), rBad0 w00 (show (2 : Int32) ≠ 0 by decide), rBad0 w00 (show (3 : Int32) ≠ 0 by decide), e10, in2, in3, in4, in5, in10, in14, in29, in39, in40, in50, in100, in299, in999, bI_nn, bI_0, b1]
  | true =>
  obtain ⟨q, hq, rfl⟩ := inB_t (by omega) b1
  obtain ⟨lr, lc, lw⟩ := h.law hq
  cases b2 : inB x2 (pN p) with
  | false =>
    refine Step.bad hI (k := 1) (v := 0) (b := 0) (c := 2) ?_ ?_ (by decide)
    · unfold mX8_seen; simp only [bd_q, jp_q, ob_q, on_q, if_true, if_false, Bool.false_eq_true, Bool.true_eq_false, Bool.not_true, Bool.not_false, pr99, pr9, pr8, cReqS h, cReqT h, cReqQ h, cReqL h, cReqB, cReq0, cReq1, cTenthB, cAskB, cFitB, xqz, xq1, xq2, xq3, pl2, pl3, pl4, pl5, pl14, pl40, pl50, pl100, pl999, pe3, pe11, pe30, pe40, pe300, bI_if, bI_0, b1, b2]
    · show mX9_seen u (nI q) x2 x3 = _
      unfold mX9_seen; simp only [bd_q, jp_q, ob_q, on_q, if_true, if_false, Bool.false_eq_true, Bool.true_eq_false, Bool.not_true, Bool.not_false, ir99, ir9, ir8, w0e, rIsS hw, rIsT hw, rIsQ hw, rIsL hw, rBad w00 _ (show (1 : Int32) ≠ 0 by decide), rBad w00 _ (show (2 : Int32) ≠ 0 by decide), rBad w00 _ (show (3 : Int32) ≠ 0 by decide), rBad1 w00 (show (1 : Int32) ≠ 0 by decide), rBad1 w00 (show (2 : Int32) ≠ 0 by decide), rBad1 w00 (show (3 : Int32) ≠ 0 by decide), rBad0 w00 (show (1 : Int32) ≠ 0 by decide), rBad0 w00 (show (2 : Int32) ≠ 0 by decide), rBad0 w00 (show (3 : Int32) ≠ 0 by decide), e10, in2, in3, in4, in5, in10, in14, in29, in39, in40, in50, in100, in299, in999, bI_nn, bI_0, b1, b2]
  | true =>
  obtain ⟨l, hl, rfl⟩ := inB_t (by omega) b2
  obtain ⟨l14, ls, lt, l0, l1, l2, l3, lf⟩ := h.lk hl
  have ls6 : loS u l < 6 := by omega
  obtain ⟨r, s2⟩ := h.2.2.1 _ ls
  have hc := s2.1.2.1
  have hT8 := s2.1.2.2.2
  have s3 := s2
  obtain ⟨-, ⟨a0, a1, a2, a3, a4, a5, a6⟩, -⟩ := s3
  have hy := hw.ly hl
  have hqf := QF.w0 (u := u) (c := 0)
  rw [w0e] at hqf
  have hlo := hqf.lo (p := p) 0 l
  rw [hlo.1, hlo.2.1, hqf.2.1, hlo.2.2.1] at hy
  have rT : ∀ x, mX9_isThing (w0 u) (nI l) x = some (bI (inB x (sT (pC p (loS u l))))) := fun x => by rw [rThing hw hl x, hlo.1]
  cases b3 : inB x3 (sT (pC p (loS u l))) with
  | false =>
    refine Step.bad hI (k := 1) (v := 0) (b := 0) (c := 2) ?_ ?_ (by decide)
    · unfold mX8_seen; simp only [bd_q, jp_q, ob_q, on_q, if_true, if_false, Bool.false_eq_true, Bool.true_eq_false, Bool.not_true, Bool.not_false, pr99, pr9, pr8, cReqS h, cReqT h, cReqQ h, cReqL h, cReqB, cReq0, cReq1, cTenthB, cAskB, cFitB, xqz, xq1, xq2, xq3, pl2, pl3, pl4, pl5, pl14, pl40, pl50, pl100, pl999, pe3, pe11, pe30, pe40, pe300, bI_if, bI_0, b1, b2, b3, h.sceneFor hl, a0, pc1, rT]
    · show mX9_seen u (nI q) (nI l) x3 = _
      unfold mX9_seen; simp only [bd_q, jp_q, ob_q, on_q, if_true, if_false, Bool.false_eq_true, Bool.true_eq_false, Bool.not_true, Bool.not_false, ir99, ir9, ir8, w0e, rIsS hw, rIsT hw, rIsQ hw, rIsL hw, rBad w00 _ (show (1 : Int32) ≠ 0 by decide), rBad w00 _ (show (2 : Int32) ≠ 0 by decide), rBad w00 _ (show (3 : Int32) ≠ 0 by decide), rBad1 w00 (show (1 : Int32) ≠ 0 by decide), rBad1 w00 (show (2 : Int32) ≠ 0 by decide), rBad1 w00 (show (3 : Int32) ≠ 0 by decide), rBad0 w00 (show (1 : Int32) ≠ 0 by decide), rBad0 w00 (show (2 : Int32) ≠ 0 by decide), rBad0 w00 (show (3 : Int32) ≠ 0 by decide), e10, in2, in3, in4, in5, in10, in14, in29, in39, in40, in50, in100, in299, in999, bI_nn, bI_0, b1, b2, b3, h.sceneFor hl, a0, pc1, rT]
  | true =>
  obtain ⟨t, ht, rfl⟩ := inB_t (by omega) b3
  obtain ⟨e, he3, he⟩ := endS_nI hc
  obtain ⟨u1, e1, f1, hV, v43, v45⟩ := h.look hl he3
  have q1 := f1.qf (by decide)
  have hv1 : IVs p u1 := q1.s (f1.m1 (by decide) (by decide)) hv
  have lc1 := lc.fvw f1
  obtain ⟨u2, e2, g2, -⟩ := cFirst (noise := 0) (chg := false) hV lc1 lw (by decide) z3 ht (Or.inl ⟨v43, rfl⟩) v45 (fun z => by cases z) he
  rw [fsS_seed (Int32.le_refl 0) (e + 1) 0 0 (gI u1 4 0 4) 0] at e2
  have q3 := q1.tr g2.qf
  obtain ⟨hw1, hy1, m38, m39, m40⟩ := ref_ctx h q3 hl
  obtain ⟨u4, e4, f4, -, -⟩ := rSeenOf hy1 hc (hw1.law hq).1 lw (by rw [m40]; decide) ht he he3
  rw [m38, m39, m40] at e4
  refine Step.ask h (u1 := u2) (u2 := u4) (v := (fiS (pW p q) (fun τ => nmS (pC p (loS u l)) (pT p (loT u l)) (lkF u l 2) (loE p u l) 0 0 1 (nI t) τ) (hrS (pC p (loS u l)) (loE p u l) (nI t)) e).elim (-1) nI) ?_ ?_ q3 (g2.qf.s g2.g54 hv1) (QF.w0.tr (f4.qf (by decide) (by decide))) (by rw [f4.m1 (by decide) (by decide), w054]) (by rw [f4.2.1 0 (by simp), w00])
  · unfold mX8_seen; simp only [bd_q, jp_q, ob_q, on_q, if_true, if_false, Bool.false_eq_true, Bool.true_eq_false, Bool.not_true, Bool.not_false, pr99, pr9, pr8, cReqS h, cReqT h, cReqQ h, cReqL h, cReqB, cReq0, cReq1, cTenthB, cAskB, cFitB, xqz, xq1, xq2, xq3, pl2, pl3, pl4, pl5, pl14, pl40, pl50, pl100, pl999, pe3, pe11, pe30, pe40, pe300, bI_if, bI_0, b1, b2, b3, h.sceneFor hl, a0, pc1, rT, a6, he, e1, ck_nI (show q < 4 by omega) (show 4 < 2 ^ 31 by decide), e2]; rfl
  · show mX9_seen u2 (nI q) (nI l) (nI t) = _
    have hw := hw1
    unfold mX9_seen; simp only [bd_q, jp_q, ob_q, on_q, if_true, if_false, Bool.false_eq_true, Bool.true_eq_false, Bool.not_true, Bool.not_false, ir99, ir9, ir8, w0e, rIsS hw, rIsT hw, rIsQ hw, rIsL hw, rBad w00 _ (show (1 : Int32) ≠ 0 by decide), rBad w00 _ (show (2 : Int32) ≠ 0 by decide), rBad w00 _ (show (3 : Int32) ≠ 0 by decide), rBad1 w00 (show (1 : Int32) ≠ 0 by decide), rBad1 w00 (show (2 : Int32) ≠ 0 by decide), rBad1 w00 (show (3 : Int32) ≠ 0 by decide), rBad0 w00 (show (1 : Int32) ≠ 0 by decide), rBad0 w00 (show (2 : Int32) ≠ 0 by decide), rBad0 w00 (show (3 : Int32) ≠ 0 by decide), e10, in2, in3, in4, in5, in10, in14, in29, in39, in40, in50, in100, in299, in999, bI_nn, bI_0, b1, b2, b3, h.sceneFor hl, a0, pc1, rT, rThing2 h q3 hl, e4]
-- says
set_option maxHeartbeats 2000000 in
theorem s_says (x1 x2 x3 : Int32) : Step [3, 1] (fun u => mX8_says u x1 x2 x3) (fun u => mX9_says u x1 x2 x3) := by
  intro u hI
  have ⟨p, h, hv⟩ := hI
  have hw := w0c h
  have n6 := h.1.1.1
  have t6 := h.1.1.2.1
  have q4 := h.1.1.2.2.1
  have n14 := h.2.2.2.2.2.1.2.1.1.1
  cases b1 : inB x1 (pNl p) with
  | false =>
    refine Step.bad hI (k := 3) (v := 0) (b := 0) (c := 1) ?_ ?_ (by decide)
    · unfold mX8_says; simp only [bd_q, jp_q, ob_q, on_q, if_true, if_false, Bool.false_eq_true, Bool.true_eq_false, Bool.not_true, Bool.not_false, pr99, pr9, pr8, cReqS h, cReqT h, cReqQ h, cReqL h, cReqB, cReq0, cReq1, cTenthB, cAskB, cFitB, xqz, xq1, xq2, xq3, pl2, pl3, pl4, pl5, pl14, pl40, pl50, pl100, pl999, pe3, pe11, pe30, pe40, pe300, bI_if, bI_0, b1]
    · show mX9_says u x1 x2 x3 = _
      unfold mX9_says; simp only [bd_q, jp_q, ob_q, on_q, if_true, if_false, Bool.false_eq_true, Bool.true_eq_false, Bool.not_true, Bool.not_false, ir99, ir9, ir8, w0e, rIsS hw, rIsT hw, rIsQ hw, rIsL hw, rBad w00 _ (show (1 : Int32) ≠ 0 by decide), rBad w00 _ (show (2 : Int32) ≠ 0 by decide), rBad w00 _ (show (3 : Int32) ≠ 0 by decide), rBad1 w00 (show (1 : Int32) ≠ 0 by decide), rBad1 w00 (show (2 : Int32) ≠ 0 by decide), rBad1 w00 (show (3 : Int32) ≠ 0 by decide), rBad0 w00 (show (1 : Int32) ≠ 0 by decide), rBad0 w00 (show (2 : Int32) ≠ 0 by decide), rBad0 w00 (show (3 : Int32) ≠ 0 by decide), e10, in2, in3, in4, in5, in10, in14, in29, in39, in40, in50, in100, in299, in999, bI_nn, bI_0, b1]
  | true =>
  obtain ⟨q, hq, rfl⟩ := inB_t (by omega) b1
  obtain ⟨lr, lc, lw⟩ := h.law hq
  cases b2 : inB x2 (pN p) with
  | false =>
    refine Step.bad hI (k := 1) (v := 0) (b := 0) (c := 2) ?_ ?_ (by decide)
    · unfold mX8_says; simp only [bd_q, jp_q, ob_q, on_q, if_true, if_false, Bool.false_eq_true, Bool.true_eq_false, Bool.not_true, Bool.not_false, pr99, pr9, pr8, cReqS h, cReqT h, cReqQ h, cReqL h, cReqB, cReq0, cReq1, cTenthB, cAskB, cFitB, xqz, xq1, xq2, xq3, pl2, pl3, pl4, pl5, pl14, pl40, pl50, pl100, pl999, pe3, pe11, pe30, pe40, pe300, bI_if, bI_0, b1, b2]
    · show mX9_says u (nI q) x2 x3 = _
      unfold mX9_says; simp only [bd_q, jp_q, ob_q, on_q, if_true, if_false, Bool.false_eq_true, Bool.true_eq_false, Bool.not_true, Bool.not_false, ir99, ir9, ir8, w0e, rIsS hw, rIsT hw, rIsQ hw, rIsL hw, rBad w00 _ (show (1 : Int32) ≠ 0 by decide), rBad w00 _ (show (2 : Int32) ≠ 0 by decide), rBad w00 _ (show (3 : Int32) ≠ 0 by decide), rBad1 w00 (show (1 : Int32) ≠ 0 by decide), rBad1 w00 (show (2 : Int32) ≠ 0 by decide), rBad1 w00 (show (3 : Int32) ≠ 0 by decide), rBad0 w00 (show (1 : Int32) ≠ 0 by decide), rBad0 w00 (show (2 : Int32) ≠ 0 by decide), rBad0 w00 (show (3 : Int32) ≠ 0 by decide), e10, in2, in3, in4, in5, in10, in14, in29, in39, in40, in50, in100, in299, in999, bI_nn, bI_0, b1, b2]
  | true =>
  obtain ⟨l, hl, rfl⟩ := inB_t (by omega) b2
  obtain ⟨l14, ls, lt, l0, l1, l2, l3, lf⟩ := h.lk hl
  have ls6 : loS u l < 6 := by omega
  obtain ⟨r, s2⟩ := h.2.2.1 _ ls
  have hc := s2.1.2.1
  have hT8 := s2.1.2.2.2
  have s3 := s2
  obtain ⟨-, ⟨a0, a1, a2, a3, a4, a5, a6⟩, -⟩ := s3
  have hy := hw.ly hl
  have hqf := QF.w0 (u := u) (c := 0)
  rw [w0e] at hqf
  have hlo := hqf.lo (p := p) 0 l
  rw [hlo.1, hlo.2.1, hqf.2.1, hlo.2.2.1] at hy
  have rT : ∀ x, mX9_isThing (w0 u) (nI l) x = some (bI (inB x (sT (pC p (loS u l))))) := fun x => by rw [rThing hw hl x, hlo.1]
  cases b3 : inB x3 3 with
  | false =>
    refine Step.bad hI (k := 1) (v := 0) (b := 0) (c := 2) ?_ ?_ (by decide)
    · unfold mX8_says; simp only [bd_q, jp_q, ob_q, on_q, if_true, if_false, Bool.false_eq_true, Bool.true_eq_false, Bool.not_true, Bool.not_false, pr99, pr9, pr8, cReqS h, cReqT h, cReqQ h, cReqL h, cReqB, cReq0, cReq1, cTenthB, cAskB, cFitB, xqz, xq1, xq2, xq3, pl2, pl3, pl4, pl5, pl14, pl40, pl50, pl100, pl999, pe3, pe11, pe30, pe40, pe300, bI_if, bI_0, b1, b2, b3, h.sceneFor hl, a0, pc1, rT]
    · show mX9_says u (nI q) (nI l) x3 = _
      unfold mX9_says; simp only [bd_q, jp_q, ob_q, on_q, if_true, if_false, Bool.false_eq_true, Bool.true_eq_false, Bool.not_true, Bool.not_false, ir99, ir9, ir8, w0e, rIsS hw, rIsT hw, rIsQ hw, rIsL hw, rBad w00 _ (show (1 : Int32) ≠ 0 by decide), rBad w00 _ (show (2 : Int32) ≠ 0 by decide), rBad w00 _ (show (3 : Int32) ≠ 0 by decide), rBad1 w00 (show (1 : Int32) ≠ 0 by decide), rBad1 w00 (show (2 : Int32) ≠ 0 by decide), rBad1 w00 (show (3 : Int32) ≠ 0 by decide), rBad0 w00 (show (1 : Int32) ≠ 0 by decide), rBad0 w00 (show (2 : Int32) ≠ 0 by decide), rBad0 w00 (show (3 : Int32) ≠ 0 by decide), e10, in2, in3, in4, in5, in10, in14, in29, in39, in40, in50, in100, in299, in999, bI_nn, bI_0, b1, b2, b3, h.sceneFor hl, a0, pc1, rT]
  | true =>
  obtain ⟨a, ha, rfl⟩ := inB_t (by decide) b3
  obtain ⟨u1, e1, f1, hv1⟩ := IV.stateOf h hv hl hq
  have q1 := f1.qf (fun r hr => hr)
  obtain ⟨u2, e2, f2⟩ := IV.says (w0c (q1.c h)) hl hq ha
  have q2 : QF u (w0 u1) := q1.tr QF.w0
  rw [(q2.lo (p := p) q l).2.2.2] at e2
  have hw1 := w0c (q1.c h)
  refine Step.ask h (u1 := u1) (u2 := u2) (v := bI (yeS (loJ p u q l) a)) ?_ ?_ q1 hv1 (QF.w0.tr (f2.qf (by decide) (by decide))) (by rw [f2.m1 (by decide) (by decide), w054]) (by rw [f2.2.1 0 (by simp), w00])
  · unfold mX8_says; simp only [bd_q, jp_q, ob_q, on_q, if_true, if_false, Bool.false_eq_true, Bool.true_eq_false, Bool.not_true, Bool.not_false, pr99, pr9, pr8, cReqS h, cReqT h, cReqQ h, cReqL h, cReqB, cReq0, cReq1, cTenthB, cAskB, cFitB, xqz, xq1, xq2, xq3, pl2, pl3, pl4, pl5, pl14, pl40, pl50, pl100, pl999, pe3, pe11, pe30, pe40, pe300, bI_if, bI_0, b1, b2, b3, h.sceneFor hl, a0, pc1, rT, e1, cYes _ ha, zb_bI]
  · show mX9_says u1 (nI q) (nI l) (nI a) = _
    have hw := hw1
    unfold mX9_says; simp only [bd_q, jp_q, ob_q, on_q, if_true, if_false, Bool.false_eq_true, Bool.true_eq_false, Bool.not_true, Bool.not_false, ir99, ir9, ir8, w0e, rIsS hw, rIsT hw, rIsQ hw, rIsL hw, rBad w00 _ (show (1 : Int32) ≠ 0 by decide), rBad w00 _ (show (2 : Int32) ≠ 0 by decide), rBad w00 _ (show (3 : Int32) ≠ 0 by decide), rBad1 w00 (show (1 : Int32) ≠ 0 by decide), rBad1 w00 (show (2 : Int32) ≠ 0 by decide), rBad1 w00 (show (3 : Int32) ≠ 0 by decide), rBad0 w00 (show (1 : Int32) ≠ 0 by decide), rBad0 w00 (show (2 : Int32) ≠ 0 by decide), rBad0 w00 (show (3 : Int32) ≠ 0 by decide), e10, in2, in3, in4, in5, in10, in14, in29, in39, in40, in50, in100, in299, in999, bI_nn, bI_0, b1, b2, b3, h.sceneFor hl, a0, pc1, rT, e2, zb_bI]
