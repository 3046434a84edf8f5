theorem cNext {B : Nat → Int32} {n : Nat} {s : PE Nat} {u : HS} (h : CPs B n s u) : ∃ v u', mX5_isNumberNext u = some (v, u') ∧ FC [3] u u' ∧ CPs B n s u' ∧ (∀ p, s = .ok p → (v = 0) = ¬ (p < n ∧ isDg (B p) = true)) ∧ ∀ e, s = .error e → v = 0 := by
  unfold mX5_isNumberNext
  cases s with
  | error e =>
    obtain ⟨⟨p', l⟩, h0, h5, h6⟩ := h
    obtain ⟨u1, e1, l1, f1⟩ := cSkip l
    have g5 : gI u1 5 0 5 = e.1 := (f1.2.1 5 (by decide)).trans h5
    rw [e1]
    simp only [ob_q, bd_q, jp_q, g5]
    rw [if_neg h0]
    exact ⟨0, u1, rfl, f1, ⟨⟨_, l1⟩, h0, g5, (f1.2.1 6 (by decide)).trans h6⟩, fun p hp => (by cases hp), fun _ _ => rfl⟩
  | ok p =>
    obtain ⟨⟨p', l, hs⟩, h5, h6⟩ := h
    have hsk := sk_of l.2.2.2.1 hs
    obtain ⟨u1, e1, l1, f1⟩ := cSkip l
    rw [hs] at l1
    have g5 : gI u1 5 0 5 = 0 := (f1.2.1 5 (by decide)).trans h5
    rw [e1]
    simp only [ob_q, bd_q, jp_q, g5, if_true]
    rw [l1.2.2.1, cIsAt l1 l1.2.2.2.1]
    simp only [ob_q]
    have hC : CPs B n (.ok p) u1 := ⟨⟨p, l1, hsk⟩, g5, (f1.2.1 6 (by decide)).trans h6⟩
    by_cases c : p < n ∧ isDg (B p) = true
    · have hb : (if p < n then bI (!decide (B p < 48) && !decide (57 < B p)) else 0) = 1 := by
        rw [if_pos c.1]; show bI (isDg (B p)) = 1; rw [c.2]; rfl
      rw [hb, if_neg (show ¬ (1 : Int32) = 0 by decide)]
      refine ⟨1, u1, rfl, f1, hC, fun q hq => ?_, fun e he => by cases he⟩
      injection hq with hq
      rw [← hq]
      simp [c]
    · have hb : (if p < n then bI (!decide (B p < 48) && !decide (57 < B p)) else 0) = 0 := by
        by_cases q : p < n
        · rw [if_pos q]; show bI (isDg (B p)) = 0
          rw [eq_false_of_ne_true (fun z => c ⟨q, z⟩)]; rfl
        · rw [if_neg q]
      rw [hb, if_pos rfl]
      refine ⟨0, u1, rfl, f1, hC, fun q hq => ?_, fun e he => by cases he⟩
      injection hq with hq
      rw [← hq]
      simp [c]
theorem cDeepN {u : HS} {o : Nat} (ho : o < 6) : mX2_isTooDeep u (nI o) = some (0, u) := by
  unfold mX2_isTooDeep
  rw [if_pos (show nI o < 6 from nI_lt (b := 6) ho (by decide))]
theorem cDeepY {u : HS} {o : Nat} (ho : 6 ≤ o) (ho2 : o < 100) : ∃ u', mX2_isTooDeep u (nI o) = some (1, u') ∧ FC [5, 6] u u' ∧ (gI u 5 0 5 = 0 → gI u' 5 0 5 = 3 ∧ gI u' 5 0 6 = gI u 5 0 4) := by
  obtain ⟨u', e, f, b, -⟩ := cBlame (u := u) 3 (gI u 5 0 4)
  unfold mX2_isTooDeep
  rw [if_neg (show ¬ nI o < 6 from nI_nlt (b := 6) ho (by omega)), e]
  exact ⟨u', rfl, f, b⟩
theorem encNm {j : Nat} (h : j < 11) : enc (nI (10000 + j)) = (-1) - nI j := by
  rcases (show j = 0 ∨ j = 1 ∨ j = 2 ∨ j = 3 ∨ j = 4 ∨ j = 5 ∨ j = 6 ∨ j = 7 ∨ j = 8 ∨ j = 9 ∨ j = 10 by omega) with q | q | q | q | q | q | q | q | q | q | q <;> subst q <;> rfl
theorem encNu {V : Nat} (h : V < 10000) : enc (nI V) = nI V := by
  unfold enc
  rw [if_pos (show nI V < 10000 from nI_lt (b := 10000) h (by decide))]
theorem numO_V {B : Nat → Int32} {n p V e : Nat} (h : numO 100000 B n p 0 9999 (-1) = .ok (V, e)) : V < 10000 := by
  have hV := numO_lt (by decide) h
  have hh : stN B n (.ok ([], p)) (fun _ => (0, 9999, -1)) = .ok ([V], sk B n e) := by simp only [stN, h]; rfl
  obtain ⟨a, p, W, g1, g2, g3, -, g4, -⟩ := stN_in hh (fun _ => by decide)
  injection g1 with g1
  injection g1 with g1 _
  rw [← g1] at g2
  have : V = W := by simpa using g2
  have r := inR_rg (a := 0) (b := 9999) (by omega) (by decide) (by decide) g3
  omega
theorem CLs.err {B : Nat → Int32} {n i k k' : Nat} {s : LSt} {K : List Nat} {e : Int32 × Nat} {u u' : HS} (h : CLs B n i k s u) (F : FC K u u') (hc : CPs B n (.error e) u') : CLs B n i k' (.error e) u' := h.to F hc fun pc hpc => by cases hpc
theorem cUnit {B : Nat → Int32} {n i o : Nat} {g0 g1 g2 g3 g4 g5 : HS → Int32 → Option HS} {f : LSt → LSt} (ho : o ≤ 6) (her : gER f) (hg : o < 6 → SubC B n i g0 (o + 1) f) : SubC B n i (fun u x => mX2_readUnit_b g0 g1 g2 g3 g4 g5 u x) o (unT B n f o) := by
  intro k s u h
  show ∃ u', mX2_readUnit_b g0 g1 g2 g3 g4 g5 u (nI o) = some u' ∧ _
  unfold mX2_readUnit_b
  obtain ⟨v, u1, e1, f1, c1, v1, v2⟩ := cNext h.2.1
  rw [e1]
  simp only [ob_q, bd_q]
  have h1 : CLs B n i k s u1 := h.st f1 c1
  have L1 : LF i u u1 := f1.lf (by decide)
  cases s with
  | error e =>
    obtain ⟨-, h0, h5, -⟩ := c1
    have n5 : gI u1 5 0 5 ≠ 0 := by rw [h5]; exact h0
    rw [if_pos (v2 e rfl), cTakeWE n5]
    simp only [ob_q, if_true]
    rw [cTakeWE n5]
    simp only [ob_q]
    obtain ⟨val, u2, e2, c2, l2, -, w2⟩ := cLGS (j := 1) (ch := 40) rfl ⟨by decide, by decide⟩ h1
    rw [e2]
    simp only [ob_q]
    rw [if_pos (w2 fun pc hpc => by cases hpc)]
    exact ⟨u2, rfl, c2, L1.tr l2⟩
  | ok pc =>
    obtain ⟨p, c⟩ := pc
    have hp := h.2.1.le
    have hpn : p ≤ n := hp.1
    have hsk : sk B n p = p := hp.2.2
    have hb : c.length + k ≤ p := h.2.2.2 _ rfl
    have v1' := v1 p rfl
    simp only [unT]
    by_cases cd : p < n ∧ isDg (B p) = true
    · rw [if_pos cd, if_neg (by rw [v1']; exact fun q => q cd)]
      obtain ⟨x, u2, e2, f2, c2, w2⟩ := cNumS (.ok ([], p)) (fun _ => (0, 9999, -1)) 0 9999 c1 (fun _ _ _ => ⟨rfl, by decide⟩)
      rw [e2]
      simp only [ob_q]
      rw [h1.1]
      cases hN : numO 100000 B n p 0 9999 (-1) with
      | error e =>
        have hst : stN B n (.ok ([], p)) (fun _ => (0, 9999, -1)) = .error e := by simp only [stN, hN]
        rw [hst] at c2
        have h2 : CLs B n i (k + 1) (.error e) u2 := h1.err f2 c2
        obtain ⟨u3, e3, c3, f3⟩ := cEmit h2 0 x (fun pc hpc => by cases hpc)
        rw [e3]
        exact ⟨u3, rfl, c3, (L1.tr (f2.lf (fun _ q => q))).tr f3⟩
      | ok Ve =>
        obtain ⟨V, e⟩ := Ve
        have hst : stN B n (.ok ([], p)) (fun _ => (0, 9999, -1)) = .ok ([V], sk B n e) := by simp only [stN, hN]; rfl
        rw [hst] at c2
        obtain ⟨W, b1, b2, -, -⟩ := w2 [] p rfl _ _ hst
        have hW : V = W := by simpa using b1
        obtain ⟨y1, y2⟩ := numO_e hpn hN
        rw [hsk] at y2
        have l := sk_le (B := B) y1
        have h2 : CLs B n i (k + 1) (.ok (sk B n e, c)) u2 := h1.adv f2 c2 (show p + 1 ≤ sk B n e by omega)
        obtain ⟨u3, e3, c3, f3⟩ := cEmit h2 (nI V) x (fun _ _ => by rw [encNu (numO_V hN), b2, hW])
        rw [e3]
        exact ⟨u3, rfl, c3, (L1.tr (f2.lf (fun _ q => q))).tr f3⟩
    · rw [if_neg cd, if_pos (by rw [v1']; exact cd)]
      obtain ⟨u2, e2, f2, c2, -⟩ := cTakeWS (i := 14) ⟨by decide, by decide⟩ c1
      rw [e2]
      simp only [ob_q]
      cases hw : wdO 14 B n p with
      | some j =>
        rw [hw] at c2
        rw [if_pos (show (some j).isSome = true from rfl)] at c2
        have hj := wd14_lt hw
        have w1 := wdO_st hw hpn wr14
        rw [hsk] at w1
        have l := sk_le (B := B) (wsE_le (B := B) hpn).2
        have h2 : CLs B n i (k + 1) (.ok (sk B n (wsE B n p), c)) u2 := h1.adv f2 c2 (by omega)
        rw [if_neg (show ¬ (some j).elim (-1) nI = -1 from nI_m1 (by omega)), h2.1]
        obtain ⟨u3, e3, c3, f3⟩ := cEmit h2 (nI (10000 + j)) ((-1) - (some j).elim (-1) nI) (fun _ _ => (encNm hj).symm)
        rw [e3]
        exact ⟨u3, rfl, c3, (L1.tr (f2.lf (by decide))).tr f3⟩
      | none =>
        rw [hw] at c2
        rw [if_neg (by simp)] at c2
        rw [if_pos (show (none : Option Nat).elim (-1) nI = -1 from rfl)]
        have h2 : CLs B n i k (.ok (p, c)) u2 := h1.st f2 c2
        have L2 := L1.tr (f2.lf (i := i) (by decide))
        obtain ⟨u3, e3, f3, c3, -⟩ := cTakeWS (i := 15) ⟨by decide, by decide⟩ c2
        rw [e3]
        simp only [ob_q]
        obtain ⟨p1, hp1⟩ : ∃ p1, p1 = (if (wdO 15 B n p).isSome = true then sk B n (wsE B n p) else p) := ⟨_, rfl⟩
        rw [← hp1] at c3 ⊢
        have hp1n : p ≤ p1 := by
          rw [hp1]
          have w0 := wsE_le (B := B) hpn
          rw [hsk] at w0
          have l := sk_le (B := B) w0.2
          split <;> omega
        have h3 : CLs B n i k (.ok (p1, c)) u3 := h2.to f3 c3 fun pc hpc => by
          injection hpc with hpc
          rw [← hpc]
          exact ⟨p, rfl, by simp only; omega⟩
        have L3 := L2.tr (f3.lf (i := i) (by decide))
        have hp1l := c3.le
        obtain ⟨val, u4, e4, c4, l4, w4, w4'⟩ := cLGS (j := 1) (ch := 40) rfl ⟨by decide, by decide⟩ h3
        have L4 := L3.tr l4
        rw [e4]
        simp only [ob_q]
        unfold unTB
        cases hs : sgB B n p1 40 with
        | false =>
          rw [if_pos (w4' fun pc hpc => by injection hpc with hpc; rw [← hpc]; exact hs), if_neg (show ¬ false = true by decide)]
          rw [show lG B n (.ok (p1, c)) 40 = .error (1, p1) from if_neg (by rw [hs]; decide)] at c4
          exact ⟨u4, rfl, c4, L4⟩
        | true =>
          obtain ⟨y1, y2⟩ := w4 (p1, c) rfl hs
          simp only at y2
          rw [if_pos rfl, if_neg (by rw [y1]; decide)]
          rw [show lG B n (.ok (p1, c)) 40 = .ok (sk B n (p1 + 1), c) from if_pos hs] at c4
          by_cases c6 : o < 6
          · rw [if_pos c6, cDeepN c6]
            simp only [ob_q, if_true, nI_1]
            have G := hg c6
            obtain ⟨u5, e5, c5, l5⟩ := G _ _ _ c4
            have L5 := L4.tr l5
            rw [e5]
            simp only [ob_q]
            cases hpr : wdO 15 B n p with
            | none =>
              rw [if_pos (show (none : Option Nat).elim (-1) nI = -1 from rfl)]
              simp only [ob_q]
              obtain ⟨val6, u6, e6, c6', l6, -⟩ := cLGS (j := 3) (ch := 41) rfl ⟨by decide, by decide⟩ c5
              rw [e6]
              exact ⟨u6, rfl, c6', L5.tr l6⟩
            | some j =>
              have hj := wd15_lt hpr
              rw [if_neg (show ¬ (some j).elim (-1) nI = -1 from nI_m1 (by omega))]
              -- one sign more stands behind: the bracket
              have c5' : CLs B n i (k + 1) (f (.ok (sk B n (p1 + 1), c))) u5 := by
                have s1 := sgB_in hs
                rw [hp1l.2.2] at s1
                have l := sk_le (B := B) (show p1 + 1 ≤ n by omega)
                obtain ⟨u5', e5', c5', -⟩ := G (k + 1) (.ok (sk B n (p1 + 1), c)) u4 ⟨c4.1, c4.2.1, c4.2.2.1, fun pc hpc => by
                  injection hpc with hpc
                  have hb3 := h3.2.2.2 _ rfl
                  simp only at hb3
                  rw [← hpc]
                  simp only
                  omega⟩
                rw [e5] at e5'
                injection e5' with e5'
                rw [e5']
                exact c5'
              obtain ⟨val6, u6, e6, c6', l6, -⟩ := cLGS (j := 2) (ch := 44) rfl ⟨by decide, by decide⟩ c5'
              rw [e6]
              simp only [ob_q]
              obtain ⟨u7, e7, c7, l7⟩ := G _ _ _ c6'
              rw [e7]
              simp only [ob_q]
              obtain ⟨u8, e8, c8, l8⟩ := cEmit c7 (nI (10024 + j)) ((-24) - (some j).elim (-1) nI) (fun _ _ => by rw [opE 10024 hj (by omega)]; rfl)
              rw [c7.1, e8]
              simp only [ob_q]
              obtain ⟨val9, u9, e9, c9, l9, -⟩ := cLGS (j := 3) (ch := 41) rfl ⟨by decide, by decide⟩ c8
              rw [e9]
              rw [lG_E] at c9
              exact ⟨u9, rfl, c9, (((L5.tr l6).tr l7).tr l8).tr l9⟩
          · rw [if_neg c6]
            obtain ⟨u5, e5, f5, b5⟩ := cDeepY (u := u4) (show 6 ≤ o by omega) (by omega)
            rw [e5]
            simp only [ob_q]
            rw [if_neg (by decide)]
            obtain ⟨⟨p4, l4', -⟩, g5, g6⟩ := c4.2.1
            obtain ⟨b5', b6'⟩ := b5 g5
            exact ⟨u5, rfl, c4.err f5 ⟨⟨p4, l4'.fc f5 (by decide) (by decide)⟩, show (3 : Int32) ≠ 0 by decide, b5', by rw [b6', y2]⟩, L4.tr (f5.lf (by decide))⟩
