def rwF (s t : Nat) (kn : Bool) (j : Nat) : Int32 := if j = 0 then nI s else if j = 1 then nI t else if j = 2 then bI kn else -1
theorem rComes (u : HS) {n s t : Nat} (hn : n < 15) (x : Int32) : ∃ u', mX9_comes u (nI n) (nI s) (nI t) x = some u' ∧ Fr [81] [] u u' ∧ (∀ l, l ≠ n → gI u' 81 l = gI u 81 l) ∧ ∀ j, j < 8 → gI u' 81 n j = rwF s t (decide (x ≠ 0)) j := by
  have kn : ck 15 (nI n) = some n := ck_nI hn (by decide)
  have hx : (if x = 0 then some 0 else some 1 : Option Int32) = some (bI (decide (x ≠ 0))) := by
    by_cases c : x = 0
    · rw [if_pos c]; simp [c, bI]
    · rw [if_neg c]; simp [c, bI]
  unfold mX9_comes
  simp only [kn, c8_0, show ck 8 1 = some 1 from by decide, show ck 8 2 = some 2 from by decide, ob_q, bd_q, jp_q, hx]
  refine loopR (fun fu (a : HS) y => mX9_comes_L39 (nI n) (fun u114 => some u114) fu y a) 8 3 (fun k a => Fr [81] [] u a ∧ (∀ l, l ≠ n → gI a 81 l = gI u 81 l) ∧ ∀ j, j < k → gI a 81 n j = rwF s t (decide (x ≠ 0)) j) (fun o => ∃ u', o = some u' ∧ Fr [81] [] u u' ∧ (∀ l, l ≠ n → gI u' 81 l = gI u 81 l) ∧ ∀ j, j < 8 → gI u' 81 n j = rwF s t (decide (x ≠ 0)) j) ?_ ?_ 5 3 _ FU (by omega) rfl (FU_lt (by omega)) ?_
  · intro fu a k h3 hk ⟨a1, a2, a3⟩ ih
    show ∃ u', mX9_comes_L39 (nI n) (fun u114 => some u114) (fu + 1) (nI k) a = some u' ∧ _
    rw [mX9_comes_L39.eq_2, if_neg (show ¬ (8 : Int32) ≤ nI k from nI_ge (b := 8) hk (by decide)), kn, ck_nI (show k < 8 by omega) (by decide)]
    simp only [ob_q, bd_q, nI_1]
    refine ih _ ⟨a1.sI (by decide) (by decide), fun l hl => by rw [gI_ri hl, a2 l hl], fun j hj => ?_⟩
    by_cases e : j = k
    · rw [e, gI_eq]; unfold rwF; rw [if_neg (by omega), if_neg (by omega), if_neg (by omega)]
    · rw [gI_k e]; exact a3 j (by omega)
  · intro fu a ha
    show ∃ u', mX9_comes_L39 (nI n) (fun u114 => some u114) (fu + 1) (nI 8) a = some u' ∧ _
    rw [mX9_comes_L39.eq_2, if_pos (show (8 : Int32) ≤ nI 8 by decide)]
    exact ⟨a, rfl, ha⟩
  · refine ⟨((Fr.rf.sI (by decide) (by decide)).sI (by decide) (by decide)).sI (by decide) (by decide), fun l hl => by rw [gI_ri hl, gI_ri hl, gI_ri hl], fun j hj => ?_⟩
    match j, hj with
    | 0, _ => rw [gI_k (by decide), gI_k (by decide), gI_eq]; rfl
    | 1, _ => rw [gI_k (by decide), gI_eq]; rfl
    | 2, _ => rw [gI_eq]; rfl
theorem cReplies (u : HS) {n : Nat} (hn : n < 14) (h0 : gI u 0 0 0 = nI n) {w : HS → Option (Int32 × HS)} : ∃ u', mX0_addLooker_L66 0 w FU 0 u = w u' ∧ (∀ r, r ≠ 22 → gI u' r = gI u r) ∧ (∀ i, i ≠ 0 → gI u' 22 i = gI u 22 i) ∧ (∀ k, gI u' 22 0 k = if 3 * n ≤ k ∧ k < 3 * n + 3 then -1 else gI u 22 0 k) ∧ gR u' = gR u := by
  refine loopR (fun fu (a : HS) y => mX0_addLooker_L66 0 w fu y a) 3 0 (fun j a => (∀ r, r ≠ 22 → gI a r = gI u r) ∧ (∀ i, i ≠ 0 → gI a 22 i = gI u 22 i) ∧ (∀ k, gI a 22 0 k = if 3 * n ≤ k ∧ k < 3 * n + j then -1 else gI u 22 0 k) ∧ gR a = gR u) (fun o => ∃ u', o = w u' ∧ (∀ r, r ≠ 22 → gI u' r = gI u r) ∧ (∀ i, i ≠ 0 → gI u' 22 i = gI u 22 i) ∧ (∀ k, gI u' 22 0 k = if 3 * n ≤ k ∧ k < 3 * n + 3 then -1 else gI u 22 0 k) ∧ gR u' = gR u) ?_ ?_ 3 0 u FU (Nat.le_refl _) (by omega) (FU_lt (by omega)) ⟨fun _ _ => rfl, fun _ _ => rfl, fun k => by rw [if_neg (by omega)], rfl⟩
  · intro fu a j _ hj ⟨h1, h2, h3, h4⟩ ih
    show ∃ u', mX0_addLooker_L66 0 w (fu + 1) (nI j) a = w u' ∧ _
    rw [mX0_addLooker_L66.eq_2, if_neg (show ¬ (3 : Int32) ≤ nI j from nI_ge (b := 3) hj (by decide)), h1 0 (by decide), h0, show (nI n * 3 + nI j : Int32) = nI (3 * n + j) from by rw [show (nI n * 3 : Int32) = nI (n * 3) from pk_mul n 3, nI_add, Nat.mul_comm], ck_nI (show 3 * n + j < 42 by omega) (by decide)]
    simp only [ob_q, bd_q, nI_1]
    refine ih _ ⟨fun r hr => by rw [gI_r hr, h1 r hr], fun i hi => by rw [gI_ri hi, h2 i hi], fun k => ?_, h4⟩
    by_cases e : k = 3 * n + j
    · rw [e, gI_eq, if_pos (by omega)]
    · rw [gI_k e, h3]
      by_cases c : 3 * n ≤ k ∧ k < 3 * n + j
      · rw [if_pos c, if_pos (by omega)]
      · rw [if_neg c, if_neg (by omega)]
  · intro fu a ⟨h1, h2, h3, h4⟩
    show ∃ u', mX0_addLooker_L66 0 w (fu + 1) (nI 3) a = w u' ∧ _
    rw [mX0_addLooker_L66.eq_2, if_pos (show (3 : Int32) ≤ nI 3 by decide)]
    exact ⟨a, rfl, h1, h2, h3, h4⟩
/-- one looker more -/
theorem IV.looker {p : IP} {u v : HS} (h : IVc p u) (hv : IVs p u) {s t : Nat} (kn : Bool) (hs : s < pNs p) (ht : t < pNt p) (hn14 : pN p < 14) (hc : CF [0, 28] u v) (ho : ∀ l, l ≠ pN p → gI v 81 l = gI u 81 l) (hn : ∀ j, j < 8 → gI v 81 (pN p) j = rwF s t kn j) (hf : gI v 83 = gI u 83 ∧ gI v 85 = gI u 85 ∧ gI v 77 = gI u 77) (h9 : gI v 9 0 28 = nI (pN p + 1)) (h00 : gI v 0 0 0 = nI (pN p + 1)) (h0 : ∀ k, k ≠ 0 → k ≠ 3 → gI v 0 0 k = gI u 0 0 k) (h3 : ∀ l, l < 14 → (gI v 0 0 3 >>> (nI l &&& 31)) &&& 1 = if l = pN p then bI kn else (gI u 0 0 3 >>> (nI l &&& 31)) &&& 1) (hk : ∀ r l, r = 20 ∨ r = 21 ∨ r = 23 ∨ r = 24 → l ≠ pN p → gI v r 0 l = gI u r 0 l) (hm : gI v 20 0 (pN p) = nI s ∧ gI v 21 0 (pN p) = nI t ∧ gI v 23 0 (pN p) = -1 ∧ gI v 24 0 (pN p) = -1) (h22 : ∀ k, gI v 22 0 k = if 3 * pN p ≤ k ∧ k < 3 * pN p + 3 then -1 else gI u 22 0 k) (he : ∀ r, 25 ≤ r ∧ r ≤ 31 → gI v r 0 = gI u r 0) (h54 : ∀ k, gI v 54 0 k = if 4 * pN p ≤ k ∧ k < 4 * pN p + 4 then -1 else gI u 54 0 k) : IV v := by
  obtain ⟨⟨a1, a2, a3⟩, ⟨b1, b2, b3, b4⟩, c1, c2, c3, c4⟩ := h.2.2.2.2.2.1
  obtain ⟨f83, f85, f77⟩ := hf
  have f9 : ∀ k, k ≠ 0 ∧ k ≠ 28 → gI v 9 0 k = gI u 9 0 k := fun k hk => hc.2.2.1 k (by simpa using hk)
  have hlo : ∀ l j, l ≠ pN p → lkF v l j = lkF u l j := fun l j hl => by unfold lkF; rw [ho l hl]
  have hln : ∀ j, j < 8 → lkF v (pN p) j = rwF s t kn j := fun j hj => by unfold lkF; rw [if_pos hn14, hn j hj]
  have hH : IHa (pS p (pN p + 1) (pNr p) (pNb p)) v := by
    refine ⟨⟨h9, by rw [f9 29 (by decide)]; exact a2, by rw [f9 30 (by decide)]; exact a3⟩, ⟨⟨by show pN p + 1 ≤ 14; omega, h00, fun l hl' => ?_⟩, ?_, ?_, ?_⟩, ?_, ?_, ?_, ?_⟩
    · have hl2 : l < pN p + 1 := hl'
      rw [h3 l (by omega)]
      by_cases e : l = pN p
      · rw [e, hm.1, hm.2.1, hm.2.2.1, hm.2.2.2, hln 0 (by decide), hln 1 (by decide), hln 2 (by decide), hln 6 (by decide), hln 7 (by decide), if_pos rfl]
        exact ⟨rfl, rfl, rfl, fun a ha => by rw [h22, if_pos (by omega), hln _ (by omega)]; unfold rwF; rw [if_neg (by omega), if_neg (by omega), if_neg (by omega)], rfl, rfl⟩
      · obtain ⟨d0, d1, d2, d3, d6, d7⟩ := b1.2.2 l (by omega)
        rw [hk 20 l (by omega) e, hk 21 l (by omega) e, hk 23 l (by omega) e, hk 24 l (by omega) e, if_neg e, hlo l _ e, hlo l _ e, hlo l _ e, hlo l _ e, hlo l _ e]
        exact ⟨d0, d1, d2, fun a ha => by rw [h22, if_neg (by omega), hlo l _ e]; exact d3 a ha, d6, d7⟩
    · rw [f83]; exact b2.of (h0 7 (by decide) (by decide)) (fun r hr => he r (by omega))
    · rw [f85]; exact b3.of (h0 11 (by decide) (by decide)) (fun r hr => he r (by omega))
    · rw [f77, f9 31 (by decide)]; exact b4.of (h0 16 (by decide) (by decide)) (he 31 (by omega))
    · intro l hl'
      have hl2 : l < pN p + 1 := hl'
      by_cases e : l = pN p
      · rw [e, hln 0 (by decide), hln 1 (by decide), hln 2 (by decide), hln 6 (by decide), hln 7 (by decide)]
        refine ⟨⟨s, hs, rfl⟩, ⟨t, ht, rfl⟩, ?_, fun a ha => Or.inl (by rw [hln _ (by omega)]; unfold rwF; rw [if_neg (by omega), if_neg (by omega), if_neg (by omega)]), Or.inl rfl, Or.inl rfl⟩
        cases kn
        · exact Or.inl rfl
        · exact Or.inr rfl
      · have := c1 l (by omega)
        simp only [hlo l _ e]
        exact this
    · rw [f83]; exact c2
    · rw [f85]; exact c3
    · rw [f77, f9 31 (by decide)]; exact c4
  refine ⟨_, hc.c (fun k hk => by simp at hk; omega) h hH, hv.forget _ _ _ (Nat.le_succ _) hn14 h54 fun l' q hl' hne => ?_⟩
  have e0 : loS v l' = loS u l' := by unfold loS; rw [hlo l' 0 hne]
  have e1 : loT v l' = loT u l' := by unfold loT; rw [hlo l' 1 hne]
  unfold loJ loE
  rw [e0, e1, hlo l' 2 hne, f83, f85]
  rfl
-- looker
set_option maxHeartbeats 2000000 in
theorem s_looker (x1 x2 x3 : Int32) : Step [2, 3] (fun u => mX8_looker u x1 x2 x3) (fun u => mX9_looker u x1 x2 x3) := by
  intro u hI
  have ⟨p, h, hv⟩ := hI
  have hw := w0c h
  have n6 := h.1.1.1
  have t6 := h.1.1.2.1
  have q4 := h.1.1.2.2.1
  have n14 := h.2.2.2.2.2.1.2.1.1.1
  cases b1 : inB x1 (pNs p) with
  | false =>
    refine Step.bad hI (k := 2) (v := 0) (b := 0) (c := 1) ?_ ?_ (by decide)
    · unfold mX8_looker; simp only [bd_q, jp_q, ob_q, on_q, if_true, if_false, Bool.false_eq_true, Bool.true_eq_false, Bool.not_true, Bool.not_false, pr99, pr9, pr8, cReqS h, cReqT h, cReqQ h, cReqL h, cReqB, cReq0, cReq1, cTenthB, cAskB, cFitB, xqz, xq1, xq2, xq3, pl2, pl3, pl4, pl5, pl14, pl40, pl50, pl100, pl999, pe3, pe11, pe30, pe40, pe300, bI_if, bI_0, b1]
    · show mX9_looker u x1 x2 x3 = _
      unfold mX9_looker; simp only [bd_q, jp_q, ob_q, on_q, if_true, if_false, Bool.false_eq_true, Bool.true_eq_false, Bool.not_true, Bool.not_false, ir99, ir9, ir8, w0e, rIsS hw, rIsT hw, rIsQ hw, rIsL hw, rBad w00 _ (show (1 : Int32) ≠ 0 by decide), rBad w00 _ (show (2 : Int32) ≠ 0 by decide), rBad w00 _ (show (3 : Int32) ≠ 0 by decide), rBad1 w00 (show (1 : Int32) ≠ 0 by decide), rBad1 w00 (show (2 : Int32) ≠ 0 by decide), rBad1 w00 (show (3 : Int32) ≠ 0 by decide), rBad0 w00 (show (1 : Int32) ≠ 0 by decide), rBad0 w00 (show (2 : Int32) ≠ 0 by decide), rBad0 w00 (show (3 : Int32) ≠ 0 by decide), e10, in2, in3, in4, in5, in10, in14, in29, in39, in40, in50, in100, in299, in999, bI_nn, bI_0, b1]
  | true =>
  obtain ⟨s, hs, rfl⟩ := inB_t (by omega) b1
  cases b2 : inB x2 (pNt p) with
  | false =>
    refine Step.bad hI (k := 3) (v := 0) (b := 0) (c := 2) ?_ ?_ (by decide)
    · unfold mX8_looker; simp only [bd_q, jp_q, ob_q, on_q, if_true, if_false, Bool.false_eq_true, Bool.true_eq_false, Bool.not_true, Bool.not_false, pr99, pr9, pr8, cReqS h, cReqT h, cReqQ h, cReqL h, cReqB, cReq0, cReq1, cTenthB, cAskB, cFitB, xqz, xq1, xq2, xq3, pl2, pl3, pl4, pl5, pl14, pl40, pl50, pl100, pl999, pe3, pe11, pe30, pe40, pe300, bI_if, bI_0, b1, b2]
    · show mX9_looker u (nI s) x2 x3 = _
      unfold mX9_looker; simp only [bd_q, jp_q, ob_q, on_q, if_true, if_false, Bool.false_eq_true, Bool.true_eq_false, Bool.not_true, Bool.not_false, ir99, ir9, ir8, w0e, rIsS hw, rIsT hw, rIsQ hw, rIsL hw, rBad w00 _ (show (1 : Int32) ≠ 0 by decide), rBad w00 _ (show (2 : Int32) ≠ 0 by decide), rBad w00 _ (show (3 : Int32) ≠ 0 by decide), rBad1 w00 (show (1 : Int32) ≠ 0 by decide), rBad1 w00 (show (2 : Int32) ≠ 0 by decide), rBad1 w00 (show (3 : Int32) ≠ 0 by decide), rBad0 w00 (show (1 : Int32) ≠ 0 by decide), rBad0 w00 (show (2 : Int32) ≠ 0 by decide), rBad0 w00 (show (3 : Int32) ≠ 0 by decide), e10, in2, in3, in4, in5, in10, in14, in29, in39, in40, in50, in100, in299, in999, bI_nn, bI_0, b1, b2]
  | true =>
  obtain ⟨t, ht, rfl⟩ := inB_t (by omega) b2
  obtain ⟨⟨i1, i2, i3⟩, ⟨j1, j2, j3, j4⟩, -⟩ := h.2.2.2.2.2.1
  by_cases c14 : pN p = 14
  · have z1 : gI u 0 0 0 = 14 := by rw [h.hn, c14]; rfl
    have z2 : gI (w0 u) 9 0 28 = 14 := by unfold w0; rw [gI_k (by decide), i1, c14]; rfl
    refine Step.same h hv (v := -1) ?_ ?_
    · unfold mX8_looker mX0_addLooker; simp only [bd_q, jp_q, ob_q, on_q, if_true, if_false, Bool.false_eq_true, Bool.true_eq_false, Bool.not_true, Bool.not_false, pr99, pr9, pr8, cReqS h, cReqT h, cReqQ h, cReqL h, cReqB, cReq0, cReq1, cTenthB, cAskB, cFitB, xqz, xq1, xq2, xq3, pl2, pl3, pl4, pl5, pl14, pl40, pl50, pl100, pl999, pe3, pe11, pe30, pe40, pe300, bI_if, bI_0, b1, b2, z1]
    · show mX9_looker u (nI s) (nI t) x3 = _
      unfold mX9_looker; simp only [bd_q, jp_q, ob_q, on_q, if_true, if_false, Bool.false_eq_true, Bool.true_eq_false, Bool.not_true, Bool.not_false, ir99, ir9, ir8, w0e, rIsS hw, rIsT hw, rIsQ hw, rIsL hw, rBad w00 _ (show (1 : Int32) ≠ 0 by decide), rBad w00 _ (show (2 : Int32) ≠ 0 by decide), rBad w00 _ (show (3 : Int32) ≠ 0 by decide), rBad1 w00 (show (1 : Int32) ≠ 0 by decide), rBad1 w00 (show (2 : Int32) ≠ 0 by decide), rBad1 w00 (show (3 : Int32) ≠ 0 by decide), rBad0 w00 (show (1 : Int32) ≠ 0 by decide), rBad0 w00 (show (2 : Int32) ≠ 0 by decide), rBad0 w00 (show (3 : Int32) ≠ 0 by decide), e10, in2, in3, in4, in5, in10, in14, in29, in39, in40, in50, in100, in299, in999, bI_nn, bI_0, b1, b2, z2]
  · have hn : pN p < 14 := by omega
    have n14' : ¬ nI (pN p) = 14 := fun y => c14 ((nI_eq (b := 14) (by omega) (by decide)).mp y)
    have k14 : ck 14 (nI (pN p)) = some (pN p) := ck_nI hn (by decide)
    have hx : (if x3 = 0 then some 0 else some ((1 : Int32) <<< (nI (pN p) &&& 31)) : Option Int32) = some (if decide (x3 ≠ 0) = true then (1 : Int32) <<< (nI (pN p) &&& 31) else 0) := by
      by_cases c : x3 = 0 <;> simp [c]
    obtain ⟨W, hW⟩ : ∃ W, W = (gI u 0 0 3 &&& (((1 : Int32) <<< (nI (pN p) &&& 31)) ^^^ (-1))) ||| (if decide (x3 ≠ 0) = true then (1 : Int32) <<< (nI (pN p) &&& 31) else 0) := ⟨_, rfl⟩
    obtain ⟨ua, hua⟩ : ∃ ua, ua = wI (wI (wI u 20 0 (pN p) (nI s)) 21 0 (pN p) (nI t)) 0 0 3 W := ⟨_, rfl⟩
    have za : gI ua 0 0 0 = nI (pN p) := by rw [hua, gI_k (by decide), gI_r (by decide), gI_r (by decide), h.hn]
    obtain ⟨ub, eb, b1', b2', b3', b4'⟩ := cReplies ua hn za (w := fun u111 => (ck 14 (gI u111 0 0 0)).bind fun k113 => (ck 14 (gI (wI u111 23 0 k113 (-1)) 0 0 0)).bind fun k115 => some (gI (wI (wI u111 23 0 k113 (-1)) 24 0 k115 (-1)) 0 0 0, wI (wI (wI u111 23 0 k113 (-1)) 24 0 k115 (-1)) 0 0 0 (gI (wI (wI u111 23 0 k113 (-1)) 24 0 k115 (-1)) 0 0 0 + 1)))
    have zb : gI ub 0 0 0 = nI (pN p) := by rw [b1' 0 (by decide), za]
    have zb2 : gI (wI ub 23 0 (pN p) (-1)) 0 0 0 = nI (pN p) := by rw [gI_r (by decide), zb]
    have zb3 : gI (wI (wI ub 23 0 (pN p) (-1)) 24 0 (pN p) (-1)) 0 0 0 = nI (pN p) := by rw [gI_r (by decide), gI_r (by decide), zb]
    simp only [zb, k14, ob_q, zb2, zb3, nI_1] at eb
    obtain ⟨uc, huc⟩ : ∃ uc, uc = wI (wI (wI ub 23 0 (pN p) (-1)) 24 0 (pN p) (-1)) 0 0 0 (nI (pN p + 1)) := ⟨_, rfl⟩
    rw [← huc] at eb
    obtain ⟨u1, e1, f1, g1⟩ := cForget uc hn
    have z3 : gI (w0 u1) 9 0 28 = nI (pN p) := by unfold w0; rw [gI_k (by decide), f1.2.1 28 (by simp), huc, gI_r (by decide), gI_r (by decide), gI_r (by decide), b1' 9 (by decide), hua, gI_r (by decide), gI_r (by decide), gI_r (by decide), i1]
    have z9 : ∀ k, k ≠ 0 → gI (w0 u1) 9 0 k = gI u 9 0 k := fun k hk => by unfold w0; rw [gI_k hk, f1.2.1 k (by simp), huc, gI_r (by decide), gI_r (by decide), gI_r (by decide), b1' 9 (by decide), hua, gI_r (by decide), gI_r (by decide), gI_r (by decide)]
    obtain ⟨u2, e2, f2, g2, h2'⟩ := rComes (w0 u1) (n := pN p) (s := s) (t := t) (by omega) x3
    have z5 : gI u2 9 0 28 = nI (pN p) := by rw [f2.2.1 28 (by simp), z3]
    refine Step.ok (u1 := u1) (u2 := wI u2 9 0 28 (nI (pN p + 1))) (v := nI (pN p)) ?_ ?_ ?_ ?_
    · unfold mX8_looker mX0_addLooker
      simp only [bd_q, jp_q, ob_q, on_q, if_true, if_false, Bool.false_eq_true, Bool.true_eq_false, Bool.not_true, Bool.not_false, pr99, pr9, pr8, cReqS h, cReqT h, cReqQ h, cReqL h, cReqB, cReq0, cReq1, cTenthB, cAskB, cFitB, xqz, xq1, xq2, xq3, pl2, pl3, pl4, pl5, pl14, pl40, pl50, pl100, pl999, pe3, pe11, pe30, pe40, pe300, bI_if, bI_0, b1, b2, h.hn, n14', k14, show ∀ (σ : HS) (i k : Nat) (v : Int32), gI (wI σ 20 i k v) 0 = gI σ 0 from fun _ _ _ _ => gI_r (by decide), show ∀ (σ : HS) (i k : Nat) (v : Int32), gI (wI σ 21 i k v) 0 = gI σ 0 from fun _ _ _ _ => gI_r (by decide), hx, ← hW, ← hua]
      rw [eb]
      simp only [ob_q, show (nI (pN p) = -1) = False from by simp [nI_m1 (show pN p < 2 ^ 31 by omega)], if_false, e1]
    · show mX9_looker u1 (nI s) (nI t) x3 = _
      unfold mX9_looker; simp only [bd_q, jp_q, ob_q, on_q, if_true, if_false, Bool.false_eq_true, Bool.true_eq_false, Bool.not_true, Bool.not_false, ir99, ir9, ir8, w0e, rIsS hw, rIsT hw, rIsQ hw, rIsL hw, rBad w00 _ (show (1 : Int32) ≠ 0 by decide), rBad w00 _ (show (2 : Int32) ≠ 0 by decide), rBad w00 _ (show (3 : Int32) ≠ 0 by decide), rBad1 w00 (show (1 : Int32) ≠ 0 by decide), rBad1 w00 (show (2 : Int32) ≠ 0 by decide), rBad1 w00 (show (3 : Int32) ≠ 0 by decide), rBad0 w00 (show (1 : Int32) ≠ 0 by decide), rBad0 w00 (show (2 : Int32) ≠ 0 by decide), rBad0 w00 (show (3 : Int32) ≠ 0 by decide), e10, in2, in3, in4, in5, in10, in14, in29, in39, in40, in50, in100, in299, in999, bI_nn, bI_0, b1, b2, rIsS' (n := pNs p) (by rw [z9 14 (by decide)]; exact h.1.2.2.1) n6, rIsT' (n := pNt p) (by rw [z9 15 (by decide)]; exact h.1.2.2.2.1) t6, z3, n14', e2, z5, nI_1, gI_eq]
      rw [show nI (pN p + 1) - 1 = nI (pN p) from by rw [← nI_1, Int32.add_sub_cancel]]
    · rw [gI_k (by decide), f2.2.1 0 (by simp), w00]
    · have G1 : ∀ r, r ≠ 54 → r ≠ 9 → r ≠ 0 → r ≠ 20 → r ≠ 21 → r ≠ 22 → r ≠ 23 → r ≠ 24 → gI (w0 u1) r = gI u r := fun r a1 a2 a3 a4 a5 a6 a7 a8 => by unfold w0; rw [gI_r a2, f1.1 r (by simpa using a1) a2, huc, gI_r a3, gI_r a8, gI_r a7, b1' r a6, hua, gI_r a3, gI_r a5, gI_r a4]
      have G2 : ∀ r, r ≠ 9 → r ≠ 54 → gI (w0 u1) r = gI uc r := fun r a1 a2 => by unfold w0; rw [gI_r a1, f1.1 r (by simpa using a2) a1]
      have V : ∀ r, r ≠ 9 → r ≠ 81 → gI (wI u2 9 0 28 (nI (pN p + 1))) r = gI (w0 u1) r := fun r a1 a2 => by rw [gI_r a1, f2.1 r (by simpa using a2) a1]
      have V81 : gI (wI u2 9 0 28 (nI (pN p + 1))) 81 = gI u2 81 := gI_r (by decide)
      have hC : CF [0, 28] u (w0 u1) := by
        have hC1 : CF [0, 28] u ua := by rw [hua]; exact ((CF.rf.h (by decide)).h (by decide)).h (by decide)
        have hC2 : CF [0, 28] u ub := ⟨fun r a b c => (b1' r (by omega)).trans (hC1.1 r a b c), fun r i a b => by
          by_cases e : r = 22
          · rw [e, b2' i b]; exact hC1.2.1 22 i (by omega) b
          · rw [b1' r e]; exact hC1.2.1 r i a b, fun k a => by rw [b1' 9 (by decide)]; exact hC1.2.2.1 k a, fun k a => by rw [b4']; exact hC1.2.2.2 k a⟩
        have hC3 : CF [0, 28] u uc := by rw [huc]; exact ((hC2.h (by decide)).h (by decide)).h (by decide)
        exact (hC3.fr f1).w0 (by decide)
      have hC4 : CF [0, 28] u (wI u2 9 0 28 (nI (pN p + 1))) := by
        refine CF.w9 ⟨fun r a b c => (f2.1 r (fun q => a (by simp at q; rw [q]; decide)) (fun q => a (by rw [q]; decide))).trans (hC.1 r a b c), fun r i a b => by rw [f2.1 r (by simp; omega) (by omega)]; exact hC.2.1 r i a b, fun k a => by rw [f2.2.1 k (by simp)]; exact hC.2.2.1 k a, fun k a => by rw [f2.2.2.2]; exact hC.2.2.2 k a⟩ (by decide)
      refine IV.looker h hv (s := s) (t := t) (decide (x3 ≠ 0)) hs ht hn hC4 ?_ ?_ ?_ ?_ ?_ ?_ ?_ ?_ ?_ ?_ ?_ ?_
      · intro l hl; rw [V81, g2 l hl, G1 81 (by decide) (by decide) (by decide) (by decide) (by decide) (by decide) (by decide) (by decide)]
      · intro j hj; rw [V81]; exact h2' j hj
      · refine ⟨?_, ?_, ?_⟩
        · rw [V 83 (by decide) (by decide), G1 83 (by decide) (by decide) (by decide) (by decide) (by decide) (by decide) (by decide) (by decide)]
        · rw [V 85 (by decide) (by decide), G1 85 (by decide) (by decide) (by decide) (by decide) (by decide) (by decide) (by decide) (by decide)]
        · rw [V 77 (by decide) (by decide), G1 77 (by decide) (by decide) (by decide) (by decide) (by decide) (by decide) (by decide) (by decide)]
      · rw [gI_eq]
      · rw [V 0 (by decide) (by decide), G2 0 (by decide) (by decide), huc, gI_eq]
      · intro k hk0 hk3
        rw [V 0 (by decide) (by decide), G2 0 (by decide) (by decide), huc, gI_k hk0, gI_r (by decide), gI_r (by decide), b1' 0 (by decide), hua, gI_k hk3, gI_r (by decide), gI_r (by decide)]
      · intro l hl
        rw [V 0 (by decide) (by decide), G2 0 (by decide) (by decide), huc, gI_k (by decide), gI_r (by decide), gI_r (by decide), b1' 0 (by decide), hua, gI_eq, hW]
        exact bitW _ _ hn hl
      · intro r l hr hl
        rw [V r (by omega) (by omega), G2 r (by omega) (by omega), huc, gI_r (by omega)]
        rcases hr with rfl | rfl | rfl | rfl
        · rw [gI_r (by decide), gI_r (by decide), b1' 20 (by decide), hua, gI_r (by decide), gI_r (by decide), gI_k hl]
        · rw [gI_r (by decide), gI_r (by decide), b1' 21 (by decide), hua, gI_r (by decide), gI_k hl, gI_r (by decide)]
        · rw [gI_r (by decide), gI_k hl, b1' 23 (by decide), hua, gI_r (by decide), gI_r (by decide), gI_r (by decide)]
        · rw [gI_k hl, gI_r (by decide), b1' 24 (by decide), hua, gI_r (by decide), gI_r (by decide), gI_r (by decide)]
      · refine ⟨?_, ?_, ?_, ?_⟩
        · rw [V 20 (by decide) (by decide), G2 20 (by decide) (by decide), huc, gI_r (by decide), gI_r (by decide), gI_r (by decide), b1' 20 (by decide), hua, gI_r (by decide), gI_r (by decide), gI_eq]
        · rw [V 21 (by decide) (by decide), G2 21 (by decide) (by decide), huc, gI_r (by decide), gI_r (by decide), gI_r (by decide), b1' 21 (by decide), hua, gI_r (by decide), gI_eq]
        · rw [V 23 (by decide) (by decide), G2 23 (by decide) (by decide), huc, gI_r (by decide), gI_r (by decide), gI_eq]
        · rw [V 24 (by decide) (by decide), G2 24 (by decide) (by decide), huc, gI_r (by decide), gI_eq]
      · intro k
        rw [V 22 (by decide) (by decide), G2 22 (by decide) (by decide), huc, gI_r (by decide), gI_r (by decide), gI_r (by decide), b3' k, hua, gI_r (by decide), gI_r (by decide), gI_r (by decide)]
      · intro r hr
        rw [V r (by omega) (by omega), G1 r (by omega) (by omega) (by omega) (by omega) (by omega) (by omega) (by omega) (by omega)]
      · intro k
        have : gI (wI u2 9 0 28 (nI (pN p + 1))) 54 0 k = gI u1 54 0 k := by rw [V 54 (by decide) (by decide)]; unfold w0; rw [gI_r (by decide)]
        rw [this, g1 k, huc, gI_r (by decide), gI_r (by decide), gI_r (by decide), b1' 54 (by decide), hua, gI_r (by decide), gI_r (by decide), gI_r (by decide)]
