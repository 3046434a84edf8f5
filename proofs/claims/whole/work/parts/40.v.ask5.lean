theorem ref_at {p : IP} {u a : HS} (h : IVc p u) (q : QF u a) {l : Nat} (hl : l < pN p) : IVc p a ∧ LY a l (pC p (loS u l)) (pT p (loT u l)) (lkF u l 2) (loE p u l) ∧ gI a 9 0 38 = 0 ∧ gI a 9 0 39 = 0 ∧ gI a 9 0 40 = 1 := by
  have ha := q.c h
  have hy := ha.ly hl
  have lo1 := q.lo (p := p) 0 l
  rw [lo1.1, lo1.2.1, q.2.1, lo1.2.2.1] at hy
  exact ⟨ha, hy, ha.2.2.2.2.2.2.2⟩
theorem IV.onIt {p : IP} {u : HS} (h : IVc p u) {l : Nat} (hl : l < pN p) : ∃ u', mX8_wasOnIt u (nI l) = some (bI (decide (oddS (pC p (loS u l)) ≠ -1) && decide (miS (pC p (loS u l)) (loE p u l) (oddS (pC p (loS u l))) (endS (pC p (loS u l))).toNatClampNeg ≤ 2)), u') ∧ QF u u' ∧ gI u' 54 = gI u 54 := by
  obtain ⟨l14, ls, lt, -⟩ := h.lk hl
  have s2 := (h.2.2.1 _ ls).2
  obtain ⟨e, he3, he⟩ := endS_nI s2.1.2.1
  have hem : (endS (pC p (loS u l))).toNatClampNeg = e := by rw [he, nI_clamp (by omega)]
  have a6 := s2.2.1.2.2.2.2.2.2
  obtain ⟨u1, e1, f1, hV, v43, v45⟩ := h.look hl he3
  unfold mX8_wasOnIt
  rw [h.sceneFor hl, hem]
  simp only [ob_q, a6, he, e1, cWithin hV he 2 (by decide)]
  refine ⟨u1, ?_, f1.qf (by decide), f1.m1 (by decide) (by decide)⟩
  by_cases c0 : oddS (pC p (loS u l)) = -1
  · simp [c0, bI]
  · rw [if_neg c0]
    simp only [twS_pos he3]
    by_cases c1 : miS (pC p (loS u l)) (loE p u l) (oddS (pC p (loS u l))) e ≤ 2
    · rw [if_neg (fun q => (twS_0 he3 (by decide)).mp q c1)]; simp [c0, c1, bI]
    · rw [if_pos ((twS_0 he3 (by decide)).mpr c1)]; simp [c1, bI]
/-- is a looker one that does not see it yet -/
def ybS (p : IP) (u : HS) (q l : Nat) : Bool := decide (loJ p u q l &&& 1 = 0) && (decide (oddS (pC p (loS u l)) ≠ -1) && decide (miS (pC p (loS u l)) (loE p u l) (oddS (pC p (loS u l))) (endS (pC p (loS u l))).toNatClampNeg ≤ 2))
def ybF (p : IP) (u : HS) (q : Nat) (b : Int32) (l : Nat) : Int32 := if ybS p u q l = true then b ||| ((1 : Int32) <<< (nI l &&& 31)) else b
theorem rsucc {α : Type} {f : α → Nat → α} {a : α} {k : Nat} : (List.range (k + 1)).foldl f a = f ((List.range k).foldl f a) k := by rw [List.range_succ, List.foldl_append]; rfl
theorem IV.yetC {p : IP} {u : HS} (h : IVc p u) (hv : IVs p u) {q : Nat} (hq : q < pNl p) : ∃ u', mX8_yet_L9 (nI q) (fun x v => some (0, x, v)) FU 0 0 u = some (0, (List.range (pN p)).foldl (ybF p u q) 0, u') ∧ QF u u' ∧ IVs p u' := by
  have n14 := h.2.2.2.2.2.1.2.1.1.1
  refine loopR (fun fu (a : Int32 × HS) y => mX8_yet_L9 (nI q) (fun x v => some (0, x, v)) fu a.1 y a.2) (pN p) 0 (fun k a => a.1 = (List.range k).foldl (ybF p u q) 0 ∧ QF u a.2 ∧ IVs p a.2) (fun o => ∃ u', o = some (0, (List.range (pN p)).foldl (ybF p u q) 0, u') ∧ QF u u' ∧ IVs p u') ?_ ?_ (pN p) 0 (0, u) FU (Nat.le_refl _) (by omega) (FU_lt (by omega)) ⟨rfl, QF.rf, hv⟩
  · intro fu ⟨b, a⟩ k _ hk ⟨hb, hqa, hva⟩ ih
    show ∃ u', mX8_yet_L9 (nI q) (fun x v => some (0, x, v)) (fu + 1) b (nI k) a = _ ∧ _
    have hqa' : QF u a := hqa
    have ha := hqa'.c h
    have hn0 : gI a 0 0 0 = nI (pN p) := ha.2.2.2.2.2.1.2.1.1.2.1
    obtain ⟨a1, e1, f1, s1⟩ := IV.stateOf ha hva hk hq
    have q1 := f1.qf (fun r hr => hr)
    rw [(hqa'.lo (p := p) q k).2.2.2] at e1
    rw [mX8_yet_L9.eq_2, hn0, if_neg (nI_ge hk (by omega)), e1]
    simp only [ob_q, bd_q, jp_q, nI_1]
    have hstep : ∀ b', b' = ybF p u q b k → b' = (List.range (k + 1)).foldl (ybF p u q) 0 := fun b' hb' => by rw [rsucc, hb']; show _ = ybF p u q _ k; rw [← hb]
    by_cases c1 : loJ p u q k &&& 1 = 0
    · rw [if_pos c1]
      have q2 := hqa'.tr q1
      obtain ⟨a2, e2, q3, g54⟩ := IV.onIt (q2.c h) hk
      have lo2 := q2.lo (p := p) q k
      rw [lo2.1, lo2.2.2.1] at e2
      rw [e2]
      simp only [ob_q, bI_0]
      cases c2 : (decide (oddS (pC p (loS u k)) ≠ -1) && decide (miS (pC p (loS u k)) (loE p u k) (oddS (pC p (loS u k))) (endS (pC p (loS u k))).toNatClampNeg ≤ 2)) with
      | false =>
        rw [if_pos rfl]
        exact ih (b, a2) ⟨hstep b (by unfold ybF ybS; rw [c2]; simp), q2.tr q3, q3.s g54 s1⟩
      | true =>
        rw [if_neg (by decide)]
        exact ih (_, a2) ⟨hstep _ (by unfold ybF ybS; rw [c2]; simp [c1]), q2.tr q3, q3.s g54 s1⟩
    · rw [if_neg c1]
      exact ih (b, a1) ⟨hstep b (by unfold ybF ybS; simp [c1]), hqa'.tr q1, s1⟩
  · intro fu ⟨b, a⟩ ⟨hb, hqa, hva⟩
    show ∃ u', mX8_yet_L9 (nI q) (fun x v => some (0, x, v)) (fu + 1) b (nI (pN p)) a = _ ∧ _
    have ha := QF.c hqa h
    have hn0 : gI a 0 0 0 = nI (pN p) := ha.2.2.2.2.2.1.2.1.1.2.1
    rw [mX8_yet_L9.eq_2, hn0, if_pos (nI_le (Nat.le_refl _) (by omega))]
    exact ⟨a, by rw [show b = _ from hb], hqa, hva⟩
theorem IV.yetR {p : IP} {u : HS} (h : IVc p u) {q : Nat} (hq : q < pNl p) : ∃ u', mX9_yet_L32 (nI q) (fun x v => some (x, v)) FU 0 0 u = some ((List.range (pN p)).foldl (ybF p u q) 0, u') ∧ Fr [78, 79] [41, 42] u u' := by
  have n14 := h.2.2.2.2.2.1.2.1.1.1
  refine loopR (fun fu (a : Int32 × HS) y => mX9_yet_L32 (nI q) (fun x v => some (x, v)) fu a.1 y a.2) (pN p) 0 (fun k a => a.1 = (List.range k).foldl (ybF p u q) 0 ∧ Fr [78, 79] [41, 42] u a.2) (fun o => ∃ u', o = some ((List.range (pN p)).foldl (ybF p u q) 0, u') ∧ Fr [78, 79] [41, 42] u u') ?_ ?_ (pN p) 0 (0, u) FU (Nat.le_refl _) (by omega) (FU_lt (by omega)) ⟨rfl, Fr.rf⟩
  · intro fu ⟨b, a⟩ k _ hk ⟨hb, hF⟩ ih
    show ∃ u', mX9_yet_L32 (nI q) (fun x v => some (x, v)) (fu + 1) b (nI k) a = _ ∧ _
    have hF' : Fr [78, 79] [41, 42] u a := hF
    have hqa : QF u a := hF'.qf (by decide) (by decide)
    obtain ⟨ha, hy, m38, m39, m40⟩ := ref_at h hqa hk
    obtain ⟨l14, ls, lt, -⟩ := h.lk hk
    have hc := (h.2.2.1 _ ls).2.1.2.1
    have hT8 := (h.2.2.1 _ ls).2.1.2.2.2
    obtain ⟨e, he3, he⟩ := endS_nI hc
    have hem : (endS (pC p (loS u k))).toNatClampNeg = e := by rw [he, nI_clamp (by omega)]
    obtain ⟨s', hs', e81⟩ := hy.1.rs
    have hn0 : gI a 9 0 28 = nI (pN p) := ha.2.2.2.2.2.1.1.1
    rw [mX9_yet_L32.eq_2, hn0, if_neg (nI_ge hk (by omega)), ck_nI (show k < 15 by omega) (by decide)]
    simp only [ob_q, c8_0, e81, rOdd hs', jp_q, bd_q, nI_1]
    have hstep : ∀ b', b' = ybF p u q b k → b' = (List.range (k + 1)).foldl (ybF p u q) 0 := fun b' hb' => by rw [rsucc, hb']; show _ = ybF p u q _ k; rw [← hb]
    by_cases c0 : oddS (pC p (loS u k)) = -1
    · rw [if_pos c0]
      exact ih (b, a) ⟨hstep b (by unfold ybF ybS; simp [c0]), hF'⟩
    · rw [if_neg c0, rNearest hy.1 m39 he he3]
      simp only [ob_q]
      by_cases c1 : 2 < miS (pC p (loS u k)) (loE p u k) (oddS (pC p (loS u k))) e
      · rw [if_pos c1]
        exact ih (b, a) ⟨hstep b (by unfold ybF ybS; rw [hem]; simp [Int32.not_le.mpr c1]), hF'⟩
      · rw [if_neg c1]
        rcases oddS_nI hc with z | ⟨t, ht, et⟩
        · exact absurd z c0
        · obtain ⟨lr, -, lw⟩ := ha.law hq
          obtain ⟨a1, e1, f1, -, -⟩ := rSeenOf hy hc lr lw (by rw [m40]; decide) ht he he3
          rw [m38, m39, m40] at e1
          rw [et, e1]
          simp only [ob_q]
          have jj : loJ p u q k = juS (pW p q) (fun τ => nmS (pC p (loS u k)) (pT p (loT u k)) (lkF u k 2) (loE p u k) 0 0 1 (nI t) τ) (hrS (pC p (loS u k)) (loE p u k) (nI t)) e := by unfold loJ jdS; rw [if_neg c0, hem, et]
          obtain ⟨b1, b2⟩ := juS_bits (w := pW p q) (Nm := fun τ => nmS (pC p (loS u k)) (pT p (loT u k)) (lkF u k 2) (loE p u k) 0 0 1 (nI t) τ) (Hr := hrS (pC p (loS u k)) (loE p u k) (nI t)) (e := e)
          cases hf : fiS (pW p q) (fun τ => nmS (pC p (loS u k)) (pT p (loT u k)) (lkF u k 2) (loE p u k) 0 0 1 (nI t) τ) (hrS (pC p (loS u k)) (loE p u k) (nI t)) e with
          | none =>
            rw [if_pos (show (none : Option Nat).elim (-1) nI = -1 from rfl)]
            have hyb : ybS p u q k = true := by unfold ybS; rw [jj, b1 hf, hem]; simp [c0, Int32.not_lt.mp c1]
            exact ih (_, a1) ⟨hstep _ (by unfold ybF; rw [if_pos hyb]), hF'.tr f1⟩
          | some f =>
            have := fiS_lt hf
            rw [if_neg (show ¬ (some f).elim (-1) nI = -1 from nI_m1 (by omega))]
            have hyb : ¬ ybS p u q k = true := by unfold ybS; rw [jj, (b2 f hf).1]; simp
            exact ih (b, a1) ⟨hstep _ (by unfold ybF; rw [if_neg hyb]), hF'.tr f1⟩
  · intro fu ⟨b, a⟩ ⟨hb, hF⟩
    show ∃ u', mX9_yet_L32 (nI q) (fun x v => some (x, v)) (fu + 1) b (nI (pN p)) a = _ ∧ _
    have hF' : Fr [78, 79] [41, 42] u a := hF
    have ha := (hF'.qf (by decide) (by decide)).c h
    have hn0 : gI a 9 0 28 = nI (pN p) := ha.2.2.2.2.2.1.1.1
    rw [mX9_yet_L32.eq_2, hn0, if_pos (nI_le (Nat.le_refl _) (by omega))]
    exact ⟨a, by rw [show b = _ from hb], hF'⟩
theorem QF.yb {p : IP} {u v : HS} (hF : QF u v) (q : Nat) : ybF p v q = ybF p u q := by
  funext b l
  have h := hF.lo (p := p) q l
  unfold ybF ybS
  rw [h.1, h.2.2.1, h.2.2.2]
-- yet
set_option maxHeartbeats 2000000 in
theorem s_yet (x1 : Int32) : Step [3] (fun u => mX8_yet u x1) (fun u => mX9_yet u x1) := by
  intro u hI
  have ⟨p, h, hv⟩ := hI
  have hw := w0c h
  have n6 := h.1.1.1
  have t6 := h.1.1.2.1
  have q4 := h.1.1.2.2.1
  have n14 := h.2.2.2.2.2.1.2.1.1.1
  cases b1 : inB x1 (pNl p) with
  | false =>
    refine Step.bad hI (k := 3) (v := 0) (b := 0) (c := 1) ?_ ?_ (by decide)
    · unfold mX8_yet; simp only [bd_q, jp_q, ob_q, on_q, if_true, if_false, Bool.false_eq_true, Bool.true_eq_false, Bool.not_true, Bool.not_false, pr99, pr9, pr8, cReqS h, cReqT h, cReqQ h, cReqL h, cReqB, cReq0, cReq1, cTenthB, cAskB, cFitB, xqz, xq1, xq2, xq3, pl2, pl3, pl4, pl5, pl14, pl40, pl50, pl100, pl999, pe3, pe11, pe30, pe40, pe300, bI_if, bI_0, b1]
    · show mX9_yet u x1 = _
      unfold mX9_yet; simp only [bd_q, jp_q, ob_q, on_q, if_true, if_false, Bool.false_eq_true, Bool.true_eq_false, Bool.not_true, Bool.not_false, ir99, ir9, ir8, w0e, rIsS hw, rIsT hw, rIsQ hw, rIsL hw, rBad w00 _ (show (1 : Int32) ≠ 0 by decide), rBad w00 _ (show (2 : Int32) ≠ 0 by decide), rBad w00 _ (show (3 : Int32) ≠ 0 by decide), rBad1 w00 (show (1 : Int32) ≠ 0 by decide), rBad1 w00 (show (2 : Int32) ≠ 0 by decide), rBad1 w00 (show (3 : Int32) ≠ 0 by decide), rBad0 w00 (show (1 : Int32) ≠ 0 by decide), rBad0 w00 (show (2 : Int32) ≠ 0 by decide), rBad0 w00 (show (3 : Int32) ≠ 0 by decide), e10, in2, in3, in4, in5, in10, in14, in29, in39, in40, in50, in100, in299, in999, bI_nn, bI_0, b1]
  | true =>
  obtain ⟨q, hq, rfl⟩ := inB_t (by omega) b1
  obtain ⟨lr, lc, lw⟩ := h.law hq
  obtain ⟨u1, e1, q1, hv1⟩ := IV.yetC h hv hq
  have hw1 := w0c (q1.c h)
  obtain ⟨u2, e2, f2⟩ := IV.yetR hw1 hq
  have qw : QF u (w0 u1) := q1.tr QF.w0
  rw [qw.yb] at e2
  refine Step.ask h (u1 := u1) (u2 := u2) (v := (List.range (pN p)).foldl (ybF p u q) 0) ?_ ?_ q1 hv1 (QF.w0.tr (f2.qf (by decide) (by decide))) (by rw [f2.m1 (by decide) (by decide), w054]) (by rw [f2.2.1 0 (by simp), w00])
  · unfold mX8_yet; simp only [bd_q, jp_q, ob_q, on_q, if_true, if_false, Bool.false_eq_true, Bool.true_eq_false, Bool.not_true, Bool.not_false, pr99, pr9, pr8, cReqS h, cReqT h, cReqQ h, cReqL h, cReqB, cReq0, cReq1, cTenthB, cAskB, cFitB, xqz, xq1, xq2, xq3, pl2, pl3, pl4, pl5, pl14, pl40, pl50, pl100, pl999, pe3, pe11, pe30, pe40, pe300, bI_if, bI_0, b1, e1]
  · show mX9_yet u1 (nI q) = _
    have hw := hw1
    unfold mX9_yet; simp only [bd_q, jp_q, ob_q, on_q, if_true, if_false, Bool.false_eq_true, Bool.true_eq_false, Bool.not_true, Bool.not_false, ir99, ir9, ir8, w0e, rIsS hw, rIsT hw, rIsQ hw, rIsL hw, rBad w00 _ (show (1 : Int32) ≠ 0 by decide), rBad w00 _ (show (2 : Int32) ≠ 0 by decide), rBad w00 _ (show (3 : Int32) ≠ 0 by decide), rBad1 w00 (show (1 : Int32) ≠ 0 by decide), rBad1 w00 (show (2 : Int32) ≠ 0 by decide), rBad1 w00 (show (3 : Int32) ≠ 0 by decide), rBad0 w00 (show (1 : Int32) ≠ 0 by decide), rBad0 w00 (show (2 : Int32) ≠ 0 by decide), rBad0 w00 (show (3 : Int32) ≠ 0 by decide), e10, in2, in3, in4, in5, in10, in14, in29, in39, in40, in50, in100, in299, in999, bI_nn, bI_0, b1, e2]
