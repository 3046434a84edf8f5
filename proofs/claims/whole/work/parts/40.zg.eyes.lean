theorem IV.forgot {p : IP} {u v : HS} (h : IVc p u) (hv : IVs p u) {l : Nat} (l14 : l < 14) (hF : Fr [54] [] u v) (hf : ∀ k, gI v 54 0 k = if 4 * l ≤ k ∧ k < 4 * l + 4 then -1 else gI u 54 0 k) : QF u v ∧ IVs p v := by
  have q : QF u v := ⟨fun r a b => hF.1 r (fun q => a (by simp at q; rw [q]; decide)) b, by unfold lkF; rw [hF.m1 (show 81 ∉ [54] by decide) (by decide)], fun k _ => hF.2.1 k (by simp), fun k _ _ => by rw [hF.2.2.2]⟩
  refine ⟨q, ?_⟩
  have := hv.forget (v := v) (pN p) (pNr p) (pNb p) (Nat.le_refl _) l14 hf (fun l' q' _ _ => by rw [pS_id]; exact (q.lo (p := p) q' l').2.2.2)
  rw [pS_id] at this
  exact this
/-- one row of eyes more -/
theorem IV.eyes {p : IP} {u v : HS} (h : IVc p u) (hv : IVs p u) {l τ X Y : Nat} (hl : l < pN p) (hr : pNr p < 60) (hτ : τ < 300) (hX : X < 40) (hY : Y < 30) (hc : CF [0, 29] u v) (hlk : gI v 81 = gI u 81) (ho : ∀ k, k ≠ pNr p → gI v 83 k = gI u 83 k) (hn : gI v 83 (pNr p) 0 = nI l ∧ gI v 83 (pNr p) 1 = nI τ ∧ gI v 83 (pNr p) 2 = nI X ∧ gI v 83 (pNr p) 3 = nI Y) (hf : gI v 85 = gI u 85 ∧ gI v 77 = gI u 77) (h9 : gI v 9 0 29 = nI (pNr p + 1)) (h0 : ∀ k, k ≠ 7 → gI v 0 0 k = gI u 0 0 k) (h7 : gI v 0 0 7 = nI (pNr p + 1)) (hk : ∀ r k, r = 25 ∨ r = 26 ∨ r = 27 → k ≠ pNr p → gI v r 0 k = gI u r 0 k) (hm : gI v 25 0 (pNr p) = nI l ∧ gI v 26 0 (pNr p) = nI τ ∧ gI v 27 0 (pNr p) = nI X * 100 + nI Y) (he : ∀ r, (20 ≤ r ∧ r ≤ 24) ∨ (28 ≤ r ∧ r ≤ 31) → gI v r 0 = gI u r 0) (h54 : ∀ k, gI v 54 0 k = if 4 * l ≤ k ∧ k < 4 * l + 4 then -1 else gI u 54 0 k) : IV v := by
  obtain ⟨⟨a1, a2, a3⟩, ⟨b1, b2, b3, b4⟩, c1, c2, c3, c4⟩ := h.2.2.2.2.2.1
  have l14 := (h.lk hl).1
  obtain ⟨f85, f77⟩ := hf
  have f9 : ∀ k, k ≠ 0 ∧ k ≠ 29 → gI v 9 0 k = gI u 9 0 k := fun k hk => hc.2.2.1 k (by simpa using hk)
  have hlk2 : lkF v = lkF u := by unfold lkF; rw [hlk]
  have hold : ∀ k, k < pNr p → ∀ j, gI v 83 k j = gI u 83 k j := fun k hk j => by rw [ho k (by omega)]
  have hH : IHa (pS p (pN p) (pNr p + 1) (pNb p)) v := by
    refine ⟨⟨by rw [f9 28 (by decide)]; exact a1, h9, by rw [f9 30 (by decide)]; exact a3⟩, ⟨?_, ⟨by show pNr p + 1 ≤ 60; omega, h7, fun r hr' => ?_⟩, ?_, ?_⟩, ?_, ?_, ?_, ?_⟩
    · rw [hlk2]; exact b1.of (h0 0 (by decide)) (h0 3 (by decide)) (fun r hr => he r (by omega))
    · have hr2 : r < pNr p + 1 := hr'
      by_cases e : r = pNr p
      · rw [e, hm.1, hm.2.1, hm.2.2, hn.1, hn.2.1, hn.2.2.1, hn.2.2.2]
        exact ⟨rfl, rfl, by rw [Int32.mul_comm]⟩
      · rw [hk 25 r (by omega) e, hk 26 r (by omega) e, hk 27 r (by omega) e, ho r e]
        exact b2.2.2 r (by omega)
    · rw [f85]; exact b3.of (h0 11 (by decide)) (fun r hr => he r (by omega))
    · rw [f77, f9 31 (by decide)]; exact b4.of (h0 16 (by decide)) (he 31 (by omega))
    · rw [hlk2]; exact c1
    · intro r hr'
      have hr2 : r < pNr p + 1 := hr'
      by_cases e : r = pNr p
      · rw [e, hn.1, hn.2.1, hn.2.2.1, hn.2.2.2]
        exact ⟨⟨l, l14, rfl⟩, ⟨τ, hτ, rfl⟩, ⟨X, hX, rfl⟩, ⟨Y, hY, rfl⟩⟩
      · rw [ho r e]; exact c2 r (by omega)
    · rw [f85]; exact c3
    · rw [f77, f9 31 (by decide)]; exact c4
  refine ⟨_, hc.c (fun k hk => by simp at hk; omega) h hH, hv.forget _ _ _ (Nat.le_refl _) l14 h54 fun l' q hl' hne => ?_⟩
  have hl14 := (h.lk hl').1
  have hE : loE (pS p (pN p) (pNr p + 1) (pNb p)) v l' = loE p u l' := by
    funext x
    unfold loE loS loT
    rw [hlk2, f85]
    exact eyS_add hold (by rw [hn.1]; exact fun y => hne ((nI_eq (by omega) (by omega)).mp y).symm)
  unfold loJ
  rw [hE]
  unfold loS loT
  rw [hlk2]
  rfl
/-- one blink more -/
theorem IV.blink {p : IP} {u v : HS} (h : IVc p u) (hv : IVs p u) {l a z : Nat} (hl : l < pN p) (hr : pNb p < 40) (haz : a ≤ z) (hz : z < 300) (hc : CF [0, 30] u v) (hlk : gI v 81 = gI u 81) (ho : ∀ k, k ≠ pNb p → gI v 85 k = gI u 85 k) (hn : gI v 85 (pNb p) 0 = nI l ∧ gI v 85 (pNb p) 1 = nI a ∧ gI v 85 (pNb p) 2 = nI z) (hf : gI v 83 = gI u 83 ∧ gI v 77 = gI u 77) (h9 : gI v 9 0 30 = nI (pNb p + 1)) (h0 : ∀ k, k ≠ 11 → gI v 0 0 k = gI u 0 0 k) (h7 : gI v 0 0 11 = nI (pNb p + 1)) (hk : ∀ r k, r = 28 ∨ r = 29 ∨ r = 30 → k ≠ pNb p → gI v r 0 k = gI u r 0 k) (hm : gI v 28 0 (pNb p) = nI l ∧ gI v 29 0 (pNb p) = nI a ∧ gI v 30 0 (pNb p) = nI z) (he : ∀ r, (20 ≤ r ∧ r ≤ 27) ∨ r = 31 → gI v r 0 = gI u r 0) (h54 : ∀ k, gI v 54 0 k = if 4 * l ≤ k ∧ k < 4 * l + 4 then -1 else gI u 54 0 k) : IV v := by
  obtain ⟨⟨a1, a2, a3⟩, ⟨b1, b2, b3, b4⟩, c1, c2, c3, c4⟩ := h.2.2.2.2.2.1
  have l14 := (h.lk hl).1
  obtain ⟨f83, f77⟩ := hf
  have f9 : ∀ k, k ≠ 0 ∧ k ≠ 30 → gI v 9 0 k = gI u 9 0 k := fun k hk => hc.2.2.1 k (by simpa using hk)
  have hlk2 : lkF v = lkF u := by unfold lkF; rw [hlk]
  have hold : ∀ k, k < pNb p → ∀ j, gI v 85 k j = gI u 85 k j := fun k hk j => by rw [ho k (by omega)]
  have hH : IHa (pS p (pN p) (pNr p) (pNb p + 1)) v := by
    refine ⟨⟨by rw [f9 28 (by decide)]; exact a1, by rw [f9 29 (by decide)]; exact a2, h9⟩, ⟨?_, ?_, ⟨by show pNb p + 1 ≤ 40; omega, h7, fun r hr' => ?_⟩, ?_⟩, ?_, ?_, ?_, ?_⟩
    · rw [hlk2]; exact b1.of (h0 0 (by decide)) (h0 3 (by decide)) (fun r hr => he r (by omega))
    · rw [f83]; exact b2.of (h0 7 (by decide)) (fun r hr => he r (by omega))
    · have hr2 : r < pNb p + 1 := hr'
      by_cases e : r = pNb p
      · rw [e, hm.1, hm.2.1, hm.2.2, hn.1, hn.2.1, hn.2.2]
        exact ⟨rfl, rfl, rfl⟩
      · rw [hk 28 r (by omega) e, hk 29 r (by omega) e, hk 30 r (by omega) e, ho r e]
        exact b3.2.2 r (by omega)
    · rw [f77, f9 31 (by decide)]; exact b4.of (h0 16 (by decide)) (he 31 (by omega))
    · rw [hlk2]; exact c1
    · rw [f83]; exact c2
    · intro r hr'
      have hr2 : r < pNb p + 1 := hr'
      by_cases e : r = pNb p
      · rw [e, hn.1, hn.2.1, hn.2.2]
        exact ⟨⟨l, l14, rfl⟩, a, z, haz, hz, rfl, rfl⟩
      · rw [ho r e]; exact c3 r (by omega)
    · rw [f77, f9 31 (by decide)]; exact c4
  refine ⟨_, hc.c (fun k hk => by simp at hk; omega) h hH, hv.forget _ _ _ (Nat.le_refl _) l14 h54 fun l' q hl' hne => ?_⟩
  have hl14 := (h.lk hl').1
  have hE : loE (pS p (pN p) (pNr p) (pNb p + 1)) v l' = loE p u l' := by
    funext x
    unfold loE loS loT
    rw [hlk2, f83]
    exact eyS_bl hold (by rw [hn.1]; exact fun y => hne ((nI_eq (by omega) (by omega)).mp y).symm)
  unfold loJ
  rw [hE]
  unfold loS loT
  rw [hlk2]
  rfl
theorem in_le {x : Nat} (y : Int32) (hx : x < 300) : mX9_in y (nI x) 299 = some (bI (inB y 300 && decide (nI x ≤ y))) := by
  show mX9_in y (nI x) (nI 299) = _
  rw [inr_ok]
  congr 2
  unfold inR inB
  rw [Bool.eq_iff_iff]
  simp only [Bool.and_eq_true, decide_eq_true_eq, Int32.le_iff_toInt_le, Int32.lt_iff_toInt_lt, nI_toInt (show 299 < 2 ^ 31 by decide), nI_toInt (show 300 < 2 ^ 31 by decide), nI_toInt (show x < 2 ^ 31 by omega), show (0 : Int32).toInt = 0 from rfl]
  omega
-- eyes
set_option maxHeartbeats 2000000 in
theorem s_eyes (x1 x2 x3 x4 : Int32) : Step [1] (fun u => mX8_eyes u x1 x2 x3 x4) (fun u => mX9_eyes u x1 x2 x3 x4) := by
  intro u hI
  have ⟨p, h, hv⟩ := hI
  have hw := w0c h
  have n6 := h.1.1.1
  have t6 := h.1.1.2.1
  have q4 := h.1.1.2.2.1
  have n14 := h.2.2.2.2.2.1.2.1.1.1
  cases b1 : inB x1 (pN p) with
  | false =>
    refine Step.bad hI (k := 1) (v := 0) (b := 0) (c := 1) ?_ ?_ (by decide)
    · unfold mX8_eyes; simp only [bd_q, jp_q, ob_q, on_q, if_true, if_false, Bool.false_eq_true, Bool.true_eq_false, Bool.not_true, Bool.not_false, pr99, pr9, pr8, cReqS h, cReqT h, cReqQ h, cReqL h, cReqB, cReq0, cReq1, cTenthB, cAskB, cFitB, xqz, xq1, xq2, xq3, pl2, pl3, pl4, pl5, pl14, pl40, pl50, pl100, pl999, pe3, pe11, pe30, pe40, pe300, bI_if, bI_0, b1]
    · show mX9_eyes u x1 x2 x3 x4 = _
      unfold mX9_eyes; simp only [bd_q, jp_q, ob_q, on_q, if_true, if_false, Bool.false_eq_true, Bool.true_eq_false, Bool.not_true, Bool.not_false, ir99, ir9, ir8, w0e, rIsS hw, rIsT hw, rIsQ hw, rIsL hw, rBad w00 _ (show (1 : Int32) ≠ 0 by decide), rBad w00 _ (show (2 : Int32) ≠ 0 by decide), rBad w00 _ (show (3 : Int32) ≠ 0 by decide), rBad1 w00 (show (1 : Int32) ≠ 0 by decide), rBad1 w00 (show (2 : Int32) ≠ 0 by decide), rBad1 w00 (show (3 : Int32) ≠ 0 by decide), rBad0 w00 (show (1 : Int32) ≠ 0 by decide), rBad0 w00 (show (2 : Int32) ≠ 0 by decide), rBad0 w00 (show (3 : Int32) ≠ 0 by decide), e10, in2, in3, in4, in5, in10, in14, in29, in39, in40, in50, in100, in299, in999, bI_nn, bI_0, b1]
  | true =>
  obtain ⟨l, hl, rfl⟩ := inB_t (by omega) b1
  cases b2 : inB x2 300 with
  | false =>
    refine Step.bad hI (k := 1) (v := 0) (b := 0) (c := 1) ?_ ?_ (by decide)
    · unfold mX8_eyes; simp only [bd_q, jp_q, ob_q, on_q, if_true, if_false, Bool.false_eq_true, Bool.true_eq_false, Bool.not_true, Bool.not_false, pr99, pr9, pr8, cReqS h, cReqT h, cReqQ h, cReqL h, cReqB, cReq0, cReq1, cTenthB, cAskB, cFitB, xqz, xq1, xq2, xq3, pl2, pl3, pl4, pl5, pl14, pl40, pl50, pl100, pl999, pe3, pe11, pe30, pe40, pe300, bI_if, bI_0, b1, b2]
    · show mX9_eyes u (nI l) x2 x3 x4 = _
      unfold mX9_eyes; simp only [bd_q, jp_q, ob_q, on_q, if_true, if_false, Bool.false_eq_true, Bool.true_eq_false, Bool.not_true, Bool.not_false, ir99, ir9, ir8, w0e, rIsS hw, rIsT hw, rIsQ hw, rIsL hw, rBad w00 _ (show (1 : Int32) ≠ 0 by decide), rBad w00 _ (show (2 : Int32) ≠ 0 by decide), rBad w00 _ (show (3 : Int32) ≠ 0 by decide), rBad1 w00 (show (1 : Int32) ≠ 0 by decide), rBad1 w00 (show (2 : Int32) ≠ 0 by decide), rBad1 w00 (show (3 : Int32) ≠ 0 by decide), rBad0 w00 (show (1 : Int32) ≠ 0 by decide), rBad0 w00 (show (2 : Int32) ≠ 0 by decide), rBad0 w00 (show (3 : Int32) ≠ 0 by decide), e10, in2, in3, in4, in5, in10, in14, in29, in39, in40, in50, in100, in299, in999, bI_nn, bI_0, b1, b2]
  | true =>
  obtain ⟨τ, hτ, rfl⟩ := inB_t (by decide) b2
  cases b3 : inB x3 40 with
  | false =>
    refine Step.bad hI (k := 1) (v := 0) (b := 0) (c := 1) ?_ ?_ (by decide)
    · unfold mX8_eyes; simp only [bd_q, jp_q, ob_q, on_q, if_true, if_false, Bool.false_eq_true, Bool.true_eq_false, Bool.not_true, Bool.not_false, pr99, pr9, pr8, cReqS h, cReqT h, cReqQ h, cReqL h, cReqB, cReq0, cReq1, cTenthB, cAskB, cFitB, xqz, xq1, xq2, xq3, pl2, pl3, pl4, pl5, pl14, pl40, pl50, pl100, pl999, pe3, pe11, pe30, pe40, pe300, bI_if, bI_0, b1, b2, b3]
    · show mX9_eyes u (nI l) (nI τ) x3 x4 = _
      unfold mX9_eyes; simp only [bd_q, jp_q, ob_q, on_q, if_true, if_false, Bool.false_eq_true, Bool.true_eq_false, Bool.not_true, Bool.not_false, ir99, ir9, ir8, w0e, rIsS hw, rIsT hw, rIsQ hw, rIsL hw, rBad w00 _ (show (1 : Int32) ≠ 0 by decide), rBad w00 _ (show (2 : Int32) ≠ 0 by decide), rBad w00 _ (show (3 : Int32) ≠ 0 by decide), rBad1 w00 (show (1 : Int32) ≠ 0 by decide), rBad1 w00 (show (2 : Int32) ≠ 0 by decide), rBad1 w00 (show (3 : Int32) ≠ 0 by decide), rBad0 w00 (show (1 : Int32) ≠ 0 by decide), rBad0 w00 (show (2 : Int32) ≠ 0 by decide), rBad0 w00 (show (3 : Int32) ≠ 0 by decide), e10, in2, in3, in4, in5, in10, in14, in29, in39, in40, in50, in100, in299, in999, bI_nn, bI_0, b1, b2, b3]
  | true =>
  obtain ⟨X, hX, rfl⟩ := inB_t (by decide) b3
  cases b4 : inB x4 30 with
  | false =>
    refine Step.bad hI (k := 1) (v := 0) (b := 0) (c := 1) ?_ ?_ (by decide)
    · unfold mX8_eyes; simp only [bd_q, jp_q, ob_q, on_q, if_true, if_false, Bool.false_eq_true, Bool.true_eq_false, Bool.not_true, Bool.not_false, pr99, pr9, pr8, cReqS h, cReqT h, cReqQ h, cReqL h, cReqB, cReq0, cReq1, cTenthB, cAskB, cFitB, xqz, xq1, xq2, xq3, pl2, pl3, pl4, pl5, pl14, pl40, pl50, pl100, pl999, pe3, pe11, pe30, pe40, pe300, bI_if, bI_0, b1, b2, b3, b4]
    · show mX9_eyes u (nI l) (nI τ) (nI X) x4 = _
      unfold mX9_eyes; simp only [bd_q, jp_q, ob_q, on_q, if_true, if_false, Bool.false_eq_true, Bool.true_eq_false, Bool.not_true, Bool.not_false, ir99, ir9, ir8, w0e, rIsS hw, rIsT hw, rIsQ hw, rIsL hw, rBad w00 _ (show (1 : Int32) ≠ 0 by decide), rBad w00 _ (show (2 : Int32) ≠ 0 by decide), rBad w00 _ (show (3 : Int32) ≠ 0 by decide), rBad1 w00 (show (1 : Int32) ≠ 0 by decide), rBad1 w00 (show (2 : Int32) ≠ 0 by decide), rBad1 w00 (show (3 : Int32) ≠ 0 by decide), rBad0 w00 (show (1 : Int32) ≠ 0 by decide), rBad0 w00 (show (2 : Int32) ≠ 0 by decide), rBad0 w00 (show (3 : Int32) ≠ 0 by decide), e10, in2, in3, in4, in5, in10, in14, in29, in39, in40, in50, in100, in299, in999, bI_nn, bI_0, b1, b2, b3, b4]
  | true =>
  obtain ⟨Y, hY, rfl⟩ := inB_t (by decide) b4
  obtain ⟨l14, ls, lt, l0, l1, m0, m1, lf⟩ := h.lk hl
  obtain ⟨⟨i1, i2, i3⟩, ⟨j1, j2, j3, j4⟩, -⟩ := h.2.2.2.2.2.1
  obtain ⟨u0, e0, f0, g0⟩ := cForget u l14
  obtain ⟨q0, s0⟩ := IV.forgot h hv l14 f0 g0
  have h0' := q0.c h
  have hr60 := j2.1
  by_cases c60 : pNr p = 60
  · have z1 : gI u0 0 0 7 = 60 := by rw [f0.m1 (by decide) (by decide), j2.2.1, c60]; rfl
    have z2 : gI (w0 u0) 9 0 29 = 60 := by unfold w0; rw [gI_k (by decide), f0.2.1 29 (by simp), i2, c60]; rfl
    have z3 : gI (w0 u0) 9 0 28 = nI (pN p) := by unfold w0; rw [gI_k (by decide), f0.2.1 28 (by simp), i1]
    refine Step.ok (u1 := u0) (u2 := w0 u0) (v := -1) ?_ ?_ w00 ⟨p, w0c h0', QF.w0.s w054 s0⟩
    · unfold mX8_eyes mX0_addEyes; simp only [bd_q, jp_q, ob_q, on_q, if_true, if_false, Bool.false_eq_true, Bool.true_eq_false, Bool.not_true, Bool.not_false, pr99, pr9, pr8, cReqS h, cReqT h, cReqQ h, cReqL h, cReqB, cReq0, cReq1, cTenthB, cAskB, cFitB, xqz, xq1, xq2, xq3, pl2, pl3, pl4, pl5, pl14, pl40, pl50, pl100, pl999, pe3, pe11, pe30, pe40, pe300, bI_if, bI_0, b1, b2, b3, b4, e0, z1]
    · show mX9_eyes u0 (nI l) (nI τ) (nI X) (nI Y) = _
      unfold mX9_eyes; simp only [bd_q, jp_q, ob_q, on_q, if_true, if_false, Bool.false_eq_true, Bool.true_eq_false, Bool.not_true, Bool.not_false, ir99, ir9, ir8, w0e, rIsS hw, rIsT hw, rIsQ hw, rIsL hw, rBad w00 _ (show (1 : Int32) ≠ 0 by decide), rBad w00 _ (show (2 : Int32) ≠ 0 by decide), rBad w00 _ (show (3 : Int32) ≠ 0 by decide), rBad1 w00 (show (1 : Int32) ≠ 0 by decide), rBad1 w00 (show (2 : Int32) ≠ 0 by decide), rBad1 w00 (show (3 : Int32) ≠ 0 by decide), rBad0 w00 (show (1 : Int32) ≠ 0 by decide), rBad0 w00 (show (2 : Int32) ≠ 0 by decide), rBad0 w00 (show (3 : Int32) ≠ 0 by decide), e10, in2, in3, in4, in5, in10, in14, in29, in39, in40, in50, in100, in299, in999, bI_nn, bI_0, b1, b2, b3, b4, rIsL' z3 n14, z2]
  · have hr : pNr p < 60 := by omega
    have z1 : gI u0 0 0 7 = nI (pNr p) := by rw [f0.m1 (by decide) (by decide), j2.2.1]
    obtain ⟨u1, hu1⟩ : ∃ u1, u1 = wI (wI (wI (wI u0 25 0 (pNr p) (nI l)) 26 0 (pNr p) (nI τ)) 27 0 (pNr p) (nI X * 100 + nI Y)) 0 0 7 (nI (pNr p + 1)) := ⟨_, rfl⟩
    have z2 : gI (w0 u1) 9 0 29 = nI (pNr p) := by rw [hu1]; unfold w0; rw [gI_k (by decide), gI_r (by decide), gI_r (by decide), gI_r (by decide), gI_r (by decide), f0.2.1 29 (by simp), i2]
    have z3 : gI (w0 u1) 9 0 28 = nI (pN p) := by rw [hu1]; unfold w0; rw [gI_k (by decide), gI_r (by decide), gI_r (by decide), gI_r (by decide), gI_r (by decide), f0.2.1 28 (by simp), i1]
    have n60 : ¬ nI (pNr p) = 60 := fun y => c60 ((nI_eq (b := 60) (by omega) (by decide)).mp y)
    obtain ⟨u2, hu2⟩ : ∃ u2, u2 = wI (wI (wI (wI (wI (w0 u1) 83 (pNr p) 0 (nI l)) 83 (pNr p) 1 (nI τ)) 83 (pNr p) 2 (nI X)) 83 (pNr p) 3 (nI Y)) 9 0 29 (nI (pNr p + 1)) := ⟨_, rfl⟩
    have k60 : ck 60 (nI (pNr p)) = some (pNr p) := ck_nI hr (by decide)
    refine Step.ok (u1 := u1) (u2 := u2) (v := nI (pNr p + 1)) ?_ ?_ ?_ ?_
    · unfold mX8_eyes mX0_addEyes; simp only [bd_q, jp_q, ob_q, on_q, if_true, if_false, Bool.false_eq_true, Bool.true_eq_false, Bool.not_true, Bool.not_false, pr99, pr9, pr8, cReqS h, cReqT h, cReqQ h, cReqL h, cReqB, cReq0, cReq1, cTenthB, cAskB, cFitB, xqz, xq1, xq2, xq3, pl2, pl3, pl4, pl5, pl14, pl40, pl50, pl100, pl999, pe3, pe11, pe30, pe40, pe300, bI_if, bI_0, b1, b2, b3, b4, e0, gI_wI, show ((0 : Nat) = 25) = False by decide, show ((0 : Nat) = 26) = False by decide, show ((0 : Nat) = 27) = False by decide, false_and, z1, n60, k60, nI_1, and_self, ← hu1]
    · show mX9_eyes u1 (nI l) (nI τ) (nI X) (nI Y) = _
      unfold mX9_eyes; simp only [bd_q, jp_q, ob_q, on_q, if_true, if_false, Bool.false_eq_true, Bool.true_eq_false, Bool.not_true, Bool.not_false, ir99, ir9, ir8, w0e, rIsS hw, rIsT hw, rIsQ hw, rIsL hw, rBad w00 _ (show (1 : Int32) ≠ 0 by decide), rBad w00 _ (show (2 : Int32) ≠ 0 by decide), rBad w00 _ (show (3 : Int32) ≠ 0 by decide), rBad1 w00 (show (1 : Int32) ≠ 0 by decide), rBad1 w00 (show (2 : Int32) ≠ 0 by decide), rBad1 w00 (show (3 : Int32) ≠ 0 by decide), rBad0 w00 (show (1 : Int32) ≠ 0 by decide), rBad0 w00 (show (2 : Int32) ≠ 0 by decide), rBad0 w00 (show (3 : Int32) ≠ 0 by decide), e10, in2, in3, in4, in5, in10, in14, in29, in39, in40, in50, in100, in299, in999, bI_nn, bI_0, b1, b2, b3, b4, rIsL' z3 n14, gI_wI, show ((9 : Nat) = 83) = False by decide, false_and, z2, n60, k60, nI_1, and_self, show ck 4 0 = some 0 from by decide, show ck 4 1 = some 1 from by decide, show ck 4 2 = some 2 from by decide, show ck 4 3 = some 3 from by decide, ← hu2]
    · rw [hu2, gI_k (by decide), gI_r (by decide), gI_r (by decide), gI_r (by decide), gI_r (by decide), w00]
    · have G : ∀ r i k, gI u2 r i k = if r = 9 ∧ i = 0 ∧ k = 29 then nI (pNr p + 1) else if r = 83 ∧ i = pNr p ∧ k = 3 then nI Y else if r = 83 ∧ i = pNr p ∧ k = 2 then nI X else if r = 83 ∧ i = pNr p ∧ k = 1 then nI τ else if r = 83 ∧ i = pNr p ∧ k = 0 then nI l else if r = 9 ∧ i = 0 ∧ k = 0 then 0 else if r = 0 ∧ i = 0 ∧ k = 7 then nI (pNr p + 1) else if r = 27 ∧ i = 0 ∧ k = pNr p then nI X * 100 + nI Y else if r = 26 ∧ i = 0 ∧ k = pNr p then nI τ else if r = 25 ∧ i = 0 ∧ k = pNr p then nI l else gI u0 r i k := fun r i k => by rw [hu2, hu1]; unfold w0; simp only [gI_wI]
      have G2 : ∀ r i, (r ≠ 9 ∧ r ≠ 83 ∧ r ≠ 0 ∧ r ≠ 25 ∧ r ≠ 26 ∧ r ≠ 27) ∨ (r = 83 ∧ i ≠ pNr p) → gI u2 r i = gI u0 r i := fun r i hh => funext fun k => by rw [G]; repeat (rw [if_neg (by omega)])
      have U : ∀ r i, r ≠ 54 → r ≠ 9 → gI u0 r i = gI u r i := fun r i a b => by rw [f0.1 r (by simpa using a) b]
      refine IV.eyes h hv (τ := τ) (X := X) (Y := Y) hl hr hτ hX hY ?_ ?_ ?_ ?_ ?_ ?_ ?_ ?_ ?_ ?_ ?_ ?_
      · rw [hu2, hu1]
        exact ((((((((((CF.rf.fr f0).h (by decide)).h (by decide)).h (by decide)).h (by decide)).w0 (by decide)).f (by decide)).f (by decide)).f (by decide)).f (by decide)).w9 (by decide)
      · funext i; rw [G2 81 i (by omega), U 81 i (by decide) (by decide)]
      · intro k hk; rw [G2 83 k (by omega), U 83 k (by decide) (by decide)]
      · exact ⟨by rw [G]; simp, by rw [G]; simp, by rw [G]; simp, by rw [G]; simp⟩
      · exact ⟨funext fun i => by rw [G2 85 i (by omega), U 85 i (by decide) (by decide)], funext fun i => by rw [G2 77 i (by omega), U 77 i (by decide) (by decide)]⟩
      · rw [G]; simp
      · intro k hk
        rw [G]
        repeat (rw [if_neg (by omega)])
        rw [U 0 0 (by decide) (by decide)]
      · rw [G]; simp
      · intro r k hr' hk
        rw [G]
        repeat (rw [if_neg (by omega)])
        rw [U r 0 (by omega) (by omega)]
      · exact ⟨by rw [G]; simp, by rw [G]; simp, by rw [G]; simp⟩
      · intro r hr'
        rw [G2 r 0 (by omega), U r 0 (by omega) (by omega)]
      · intro k
        rw [G2 54 0 (by omega)]
        exact g0 k
