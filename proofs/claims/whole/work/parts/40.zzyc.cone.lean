theorem opF {j : Nat} (h : j < 3) : enc (nI (10030 + j)) = (-26) - nI j := by
  rcases (show j = 0 ∨ j = 1 ∨ j = 2 by omega) with q | q | q <;> subst q <;> rfl
theorem maxZ {j : Nat} (h : j < 2 ^ 31) : (if 0 < nI j then nI j else 0) = nI j := by
  by_cases c : 0 < nI j
  · rw [if_pos c]
  · rw [if_neg c]
    have : j = 0 := by
      by_cases e : j = 0
      · exact e
      · exact absurd (show (0 : Int32) < nI j from nI_lt (a := 0) (by omega) h) c
    rw [this]; rfl
theorem cOne {B : Nat → Int32} {n i o : Nat} {g0 g1 g2 g3 g4 g5 : HS → Int32 → Option HS} {f5 f3 f0 : LSt → LSt} (ho : o ≤ 6) (e0 : gER f0) (hg5 : o < 6 → SubC B n i g5 (o + 1) f5) (hg3 : o < 6 → SubC B n i g3 (o + 1) f3) (hg0 : SubC B n i g0 o f0) (k0 : gOK B n false (39 + 3 * o) f0) : SubC B n i (fun u x => mX2_readOne_b g0 g1 g2 g3 g4 g5 u x) o (onT B n f5 f3 f0 o) := by
  intro k s u h
  show ∃ u', mX2_readOne_b g0 g1 g2 g3 g4 g5 u (nI o) = some u' ∧ _
  unfold mX2_readOne_b
  cases s with
  | error e =>
    obtain ⟨-, h0, h5, -⟩ := h.2.1
    have n5 : gI u 5 0 5 ≠ 0 := by rw [h5]; exact h0
    rw [cTakeWE n5]
    simp only [ob_q, bd_q]
    rw [if_neg (show ¬ (-1 : Int32) = 0 by decide), cTakeSE n5]
    simp only [ob_q]
    rw [if_neg (show ¬ (-1 : Int32) = 0 by decide)]
    obtain ⟨u1, e1, c1, l1⟩ := hg0 (k + 1) (.error e) u ⟨h.1, h.2.1, h.2.2.1, fun pc hpc => by cases hpc⟩
    rw [e0] at c1
    rw [e1]
    simp only [ob_q]
    obtain ⟨x, u2, e2, f2, c2, -⟩ := cDemS (i := 9) ⟨by decide, by decide⟩ (.error e) c1.2.1
    rw [e2]
    simp only [ob_q]
    obtain ⟨u3, e3, c3, l3⟩ := hg0 (k + 1) (.error e) u2 (c1.err f2 c2)
    rw [e0] at c3
    rw [e3]
    simp only [ob_q]
    obtain ⟨u4, e4, c4, l4⟩ := cEmit c3 0 ((-26) - (if 0 < x then x else 0)) (fun pc hpc => by cases hpc)
    rw [c3.1, e4]
    exact ⟨u4, rfl, c4, ((l1.tr (f2.lf (fun _ q => q))).tr l3).tr l4⟩
  | ok pc =>
    obtain ⟨p, c⟩ := pc
    have hp := h.2.1.le
    have hpn : p ≤ n := hp.1
    have hsk : sk B n p = p := hp.2.2
    have hb : c.length + k ≤ p := h.2.2.2 _ rfl
    simp only [onT]
    obtain ⟨u1, e1, f1, c1, t1⟩ := cTakeWS (i := 6) ⟨by decide, by decide⟩ h.2.1
    have L1 : LF i u u1 := f1.lf (by decide)
    have t1 : (wdO 6 B n p).isSome = true → gI u1 5 0 4 = nI p := t1
    have e1 : mX5_takeWord u 6 = some ((wdO 6 B n p).elim (-1) nI, u1) := e1
    have c1 : CPs B n (.ok (if (wdO 6 B n p).isSome = true then sk B n (wsE B n p) else p)) u1 := c1
    rw [e1]
    simp only [ob_q, bd_q]
    cases hw : wdO 6 B n p with
    | some j =>
      have hj : j = 0 := wd1x (w := [110, 111, 116]) rfl (by decide) hw
      subst hj
      rw [hw] at c1 t1
      rw [if_pos (show (some 0).isSome = true from rfl)] at c1
      have w1 := wdO_st hw hpn wr6
      rw [hsk] at w1
      have l := sk_le (B := B) (wsE_le (B := B) hpn).2
      have h1 : CLs B n i (k + 1) (.ok (sk B n (wsE B n p), c)) u1 := h.adv (q := sk B n (wsE B n p)) f1 c1 (by omega)
      rw [if_pos (show (some 0).elim (-1) nI = 0 from rfl), if_pos (show some 0 = some 0 from rfl)]
      by_cases c6 : o < 6
      · rw [if_pos c6, cDeepN c6]
        simp only [ob_q, if_true, nI_1]
        obtain ⟨u2, e2, c2, l2⟩ := hg5 c6 _ _ _ h1
        rw [e2]
        simp only [ob_q]
        obtain ⟨u3, e3, c3, l3⟩ := cEmit c2 10033 (-31) (fun _ _ => rfl)
        rw [c2.1, e3]
        exact ⟨u3, rfl, c3, (L1.tr l2).tr l3⟩
      · rw [if_neg c6]
        obtain ⟨u5, e5, f5', b5⟩ := cDeepY (u := u1) (show 6 ≤ o by omega) (by omega)
        rw [e5]
        simp only [ob_q]
        rw [if_neg (show ¬ (1 : Int32) = 0 by decide)]
        obtain ⟨⟨p4, l4', -⟩, g5', g6'⟩ := c1
        obtain ⟨b5', b6'⟩ := b5 g5'
        exact ⟨u5, rfl, h1.err f5' ⟨⟨p4, l4'.fc f5' (by decide) (by decide)⟩, show (3 : Int32) ≠ 0 by decide, b5', by rw [b6']; exact t1 rfl⟩, L1.tr (f5'.lf (by decide))⟩
    | none =>
      rw [hw] at c1
      rw [if_neg (by simp)] at c1
      rw [if_neg (show ¬ (none : Option Nat).elim (-1) nI = 0 by decide), if_neg (show ¬ (none : Option Nat) = some 0 by simp)]
      have h1 : CLs B n i k (.ok (p, c)) u1 := h.st f1 c1
      obtain ⟨u2, e2, f2, c2, t2⟩ := cTakeS (i := 7) ⟨by decide, by decide⟩ c1
      have L2 : LF i u u2 := L1.tr (f2.lf (by decide))
      rw [e2]
      simp only [ob_q]
      rw [sgx (i := 7) (ch := 91) rfl] at c2 t2 ⊢
      cases hs : sgB B n p 91 with
      | true =>
        rw [hs, if_pos (show true = true from rfl)] at c2 t2
        rw [if_pos (show (some 0).isSome = true from rfl)] at c2
        have s1 := sgB_in hs
        rw [hsk] at s1
        have l := sk_le (B := B) (show p + 1 ≤ n by omega)
        have h2 : CLs B n i (k + 1) (.ok (sk B n (p + 1), c)) u2 := h1.adv (q := sk B n (p + 1)) f2 c2 (by omega)
        rw [if_pos (show (if true = true then some 0 else none : Option Nat).elim (-1) nI = 0 from rfl), if_pos (show true = true from rfl)]
        by_cases c6 : o < 6
        · rw [if_pos c6, cDeepN c6]
          simp only [ob_q, if_true, nI_1]
          obtain ⟨u3, e3, c3, l3⟩ := hg3 c6 k _ u2 ⟨h2.1, h2.2.1, h2.2.2.1, fun pc hpc => by have := h2.2.2.2 pc hpc; omega⟩
          rw [e3]
          simp only [ob_q]
          obtain ⟨val, u4, e4, c4, l4, -⟩ := cLGS (j := 8) (ch := 93) rfl ⟨by decide, by decide⟩ c3
          rw [e4]
          exact ⟨u4, rfl, c4, (L2.tr l3).tr l4⟩
        · rw [if_neg c6]
          obtain ⟨u5, e5, f5', b5⟩ := cDeepY (u := u2) (show 6 ≤ o by omega) (by omega)
          rw [e5]
          simp only [ob_q]
          rw [if_neg (show ¬ (1 : Int32) = 0 by decide)]
          obtain ⟨⟨p4, l4', -⟩, g5', g6'⟩ := c2
          obtain ⟨b5', b6'⟩ := b5 g5'
          exact ⟨u5, rfl, h2.err f5' ⟨⟨p4, l4'.fc f5' (by decide) (by decide)⟩, show (3 : Int32) ≠ 0 by decide, b5', by rw [b6']; exact t2 rfl⟩, L2.tr (f5'.lf (by decide))⟩
      | false =>
        rw [hs, if_neg (show ¬ false = true by decide)] at c2
        rw [if_neg (by simp)] at c2
        rw [if_neg (show ¬ (if false = true then some 0 else none : Option Nat).elim (-1) nI = 0 by decide), if_neg (show ¬ false = true by decide)]
        have h2 : CLs B n i k (.ok (p, c)) u2 := h1.st f2 c2
        obtain ⟨u3, e3, c3, l3⟩ := hg0 _ _ _ h2
        have L3 := L2.tr l3
        rw [e3]
        simp only [ob_q]
        obtain ⟨x, u4, e4, f4, c4, v4, v4'⟩ := cDemS (i := 9) ⟨by decide, by decide⟩ (lPl (f0 (.ok (p, c)))) c3.2.1
        rw [e4]
        simp only [ob_q]
        have L4 := L3.tr (f4.lf (i := i) (fun _ q => q))
        cases hA : f0 (.ok (p, c)) with
        | error e =>
          rw [hA] at c3 c4
          obtain ⟨u5, e5, c5, l5⟩ := hg0 (k + 1) (.error e) u4 (c3.err f4 c4)
          rw [e0] at c5
          rw [e5]
          simp only [ob_q]
          obtain ⟨u6, e6, c6, l6⟩ := cEmit c5 0 ((-26) - (if 0 < x then x else 0)) (fun pc hpc => by cases hpc)
          rw [c5.1, e6]
          exact ⟨u6, rfl, c6, (L4.tr l5).tr l6⟩
        | ok z =>
          rw [hA] at c3 c4 v4
          obtain ⟨z1, z2⟩ := z
          obtain ⟨hx, -⟩ := v4 z1 rfl
          have hz := c3.2.1.le
          have c4 : CPs B n (if (sgO 9 B n z1).isSome = true then .ok (sk B n (z1 + 1)) else .error (1, z1)) u4 := c4
          simp only
          cases hg : sgO 9 B n z1 with
          | none =>
            rw [hg, if_neg (by simp)] at c4
            obtain ⟨u5, e5, c5, l5⟩ := hg0 (k + 1) (.error (1, z1)) u4 (c3.err f4 c4)
            rw [e0] at c5
            rw [e5]
            simp only [ob_q]
            obtain ⟨u6, e6, c6, l6⟩ := cEmit c5 0 ((-26) - (if 0 < x then x else 0)) (fun pc hpc => by cases hpc)
            rw [c5.1, e6]
            exact ⟨u6, rfl, c6, (L4.tr l5).tr l6⟩
          | some j =>
            have hj : j < 3 := sgO_j hg
            have s1 := sgO_in hg
            rw [show sk B n z1 = z1 from hz.2.2] at s1
            have l := sk_le (B := B) (show z1 + 1 ≤ n by omega)
            rw [hg, if_pos (show (some j).isSome = true from rfl)] at c4
            rw [hg] at hx
            have h4 : CLs B n i (k + 1) (.ok (sk B n (z1 + 1), z2)) u4 := c3.adv (q := sk B n (z1 + 1)) f4 c4 (by omega)
            obtain ⟨u5, e5, c5, l5⟩ := hg0 _ _ _ h4
            rw [e5]
            simp only [ob_q]
            obtain ⟨u6, e6, c6, l6⟩ := cEmit c5 (nI (10030 + j)) ((-26) - (if 0 < x then x else 0)) (fun _ _ => by
              have e : x = nI j := hx
              rw [opF hj, e, maxZ (by omega)])
            rw [c5.1, e6]
            exact ⟨u6, rfl, c6, (L4.tr l5).tr l6⟩
/-- the whole group -/
theorem cGrp {B : Nat → Int32} {n i : Nat} (hn : n ≤ 400) : ∀ d w o, w < 6 → o ≤ 6 → gNd w o ≤ d → SubC B n i (recX2 d w) o (gS B n d w o) := by
  intro d
  induction d with
  | zero => intro w o hw ho hd; exfalso; unfold gNd at hd; split at hd <;> (try omega); split at hd <;> (try omega); split at hd <;> (try omega); split at hd <;> (try omega); split at hd <;> omega
  | succ d ih =>
    intro w o hw ho hd
    match w, hw with
    | 0, _ =>
      have hd' : (6 - o) * 6 + 3 ≤ d + 1 := hd
      have I := ih 1 o (by decide) ho (show (6 - o) * 6 + 2 ≤ d by omega)
      have K := gS_ok (B := B) (n := n) d 1 o (by decide) ho (show (6 - o) * 6 + 2 ≤ d by omega)
      intro k s u h
      rw [recX2.eq_2, if_pos rfl, gS_0]
      unfold mX2_readSum_b
      obtain ⟨u1, e1, c1, l1⟩ := I k s u h
      rw [e1]
      simp only [ob_q, jp_q]
      obtain ⟨u2, e2, c2, l2⟩ := cL_sum (g0 := recX2 d 0) (g1 := recX2 d 1) (g2 := recX2 d 2) (g3 := recX2 d 3) (g4 := recX2 d 4) (g5 := recX2 d 5) I K 401 0 FU k _ u1 rfl (FU_lt (by decide)) (fun pc _ => by omega) c1
      exact ⟨u2, e2, c2, l1.tr l2⟩
    | 1, _ =>
      have hd' : (6 - o) * 6 + 2 ≤ d + 1 := hd
      have I := ih 2 o (by decide) ho (show (6 - o) * 6 + 1 ≤ d by omega)
      have K := gS_ok (B := B) (n := n) d 2 o (by decide) ho (show (6 - o) * 6 + 1 ≤ d by omega)
      intro k s u h
      rw [recX2.eq_2, if_neg (by decide), if_pos rfl, gS_1]
      unfold mX2_readProduct_b
      obtain ⟨u1, e1, c1, l1⟩ := I k s u h
      rw [e1]
      simp only [ob_q, jp_q]
      obtain ⟨u2, e2, c2, l2⟩ := cL_prod (g0 := recX2 d 0) (g1 := recX2 d 1) (g2 := recX2 d 2) (g3 := recX2 d 3) (g4 := recX2 d 4) (g5 := recX2 d 5) I K 401 0 FU k _ u1 rfl (FU_lt (by decide)) (fun pc _ => by omega) c1
      exact ⟨u2, e2, c2, l1.tr l2⟩
    | 2, _ =>
      have hd' : (6 - o) * 6 + 1 ≤ d + 1 := hd
      intro k s u h
      rw [recX2.eq_2, if_neg (by decide), if_neg (by decide), if_pos rfl, gS_2]
      exact cUnit (g0 := recX2 d 0) (g1 := recX2 d 1) (g2 := recX2 d 2) (g3 := recX2 d 3) (g4 := recX2 d 4) (g5 := recX2 d 5) ho (gS_er _ _ _) (fun hh => ih 0 (o + 1) (by decide) (by omega) (show (6 - (o + 1)) * 6 + 3 ≤ d by omega)) k s u h
    | 3, _ =>
      have hd' : (6 - o) * 6 + 6 ≤ d + 1 := hd
      have I := ih 4 o (by decide) ho (show (6 - o) * 6 + 5 ≤ d by omega)
      have K := gS_ok (B := B) (n := n) d 4 o (by decide) ho (show (6 - o) * 6 + 5 ≤ d by omega)
      intro k s u h
      rw [recX2.eq_2, if_neg (by decide), if_neg (by decide), if_neg (by decide), if_pos rfl, gS_3]
      unfold mX2_readEither_b
      obtain ⟨u1, e1, c1, l1⟩ := I k s u h
      rw [e1]
      simp only [ob_q, jp_q]
      obtain ⟨u2, e2, c2, l2⟩ := cL_eith (g0 := recX2 d 0) (g1 := recX2 d 1) (g2 := recX2 d 2) (g3 := recX2 d 3) (g4 := recX2 d 4) (g5 := recX2 d 5) I K 401 0 FU k _ u1 rfl (FU_lt (by decide)) (fun pc _ => by omega) c1
      exact ⟨u2, e2, c2, l1.tr l2⟩
    | 4, _ =>
      have hd' : (6 - o) * 6 + 5 ≤ d + 1 := hd
      have I := ih 5 o (by decide) ho (show (6 - o) * 6 + 4 ≤ d by omega)
      have K := gS_ok (B := B) (n := n) d 5 o (by decide) ho (show (6 - o) * 6 + 4 ≤ d by omega)
      intro k s u h
      rw [recX2.eq_2, if_neg (by decide), if_neg (by decide), if_neg (by decide), if_neg (by decide), if_pos rfl, gS_4]
      unfold mX2_readBoth_b
      obtain ⟨u1, e1, c1, l1⟩ := I k s u h
      rw [e1]
      simp only [ob_q, jp_q]
      obtain ⟨u2, e2, c2, l2⟩ := cL_both (g0 := recX2 d 0) (g1 := recX2 d 1) (g2 := recX2 d 2) (g3 := recX2 d 3) (g4 := recX2 d 4) (g5 := recX2 d 5) I K 401 0 FU k _ u1 rfl (FU_lt (by decide)) (fun pc _ => by omega) c1
      exact ⟨u2, e2, c2, l1.tr l2⟩
    | 5, _ =>
      have hd' : (6 - o) * 6 + 4 ≤ d + 1 := hd
      intro k s u h
      rw [recX2.eq_2, if_neg (by decide), if_neg (by decide), if_neg (by decide), if_neg (by decide), if_neg (by decide), gS_5]
      exact cOne (g0 := recX2 d 0) (g1 := recX2 d 1) (g2 := recX2 d 2) (g3 := recX2 d 3) (g4 := recX2 d 4) (g5 := recX2 d 5) ho (gS_er _ _ _) (fun hh => ih 5 (o + 1) (by decide) (by omega) (show (6 - (o + 1)) * 6 + 4 ≤ d by omega)) (fun hh => ih 3 (o + 1) (by decide) (by omega) (show (6 - (o + 1)) * 6 + 6 ≤ d by omega)) (ih 0 o (by decide) ho (show (6 - o) * 6 + 3 ≤ d by omega)) ((gS_ok (B := B) (n := n) d 0 o (by decide) ho (show (6 - o) * 6 + 3 ≤ d by omega)).mo (show 39 + 3 * o ≤ 3 * o + 39 by omega)) k s u h
