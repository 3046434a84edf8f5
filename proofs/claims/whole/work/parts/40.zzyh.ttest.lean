theorem tTest {B : Nat → Int32} {n o : Nat} {g0 g1 g2 g3 g4 g5 : HS → Option HS} {f5 f3 f0 : LSt → LSt} (ho : o ≤ 6) (E2 : ErR B n g2) (E3 : ErR B n g3) (E5 : ErR B n g5) (hg3 : o < 6 → SubR B n g3 (o + 1) f5) (hg5 : o < 6 → SubR B n g5 (o + 1) f3) (hg2 : SubR B n g2 o f0) : SubR B n (mX9_test_b g0 g1 g2 g3 g4 g5) o (onT B n f5 f3 f0 o) := by
  intro k s u h
  unfold mX9_test_b
  cases s with
  | error e =>
    obtain ⟨-, h0, h6, -⟩ := h.1
    rw [if_neg (by rw [h6]; exact h0)]
    exact ⟨u, rfl, h, RF.rf⟩
  | ok pc =>
    obtain ⟨p, c⟩ := pc
    have hp := h.1.le
    have hpn : p ≤ n := hp.1
    have hsk : sk B n p = p := hp.2.2
    rw [if_pos h.1.2.1]
    have wd : wdO 6 B n p = if eqW B p (wsE B n p - p) [110, 111, 116] = true then some 0 else none := wd1e rfl (by decide) hsk
    obtain ⟨u1, e1, l1, c1, f1⟩ := tIsW (w := [110, 111, 116]) (a1 := 14) (a2 := 15) (a3 := 20) (a4 := 0) (a5 := 0) (a6 := 0) (by decide) (by decide) (by decide) h
    rw [e1]
    simp only [ob_q, bd_q]
    simp only [onT]
    by_cases q : eqW B p (wsE B n p - p) [110, 111, 116] = true
    · rw [if_pos q] at wd
      rw [wd, if_pos (show (some 0 : Option Nat) = some 0 from rfl), q, if_neg (show ¬ bI true = 0 by decide)]
      have w1 := wdO_st wd hpn wr6
      rw [hsk] at w1
      have w2 := (wsE_le (B := B) hpn).2
      have w3 : 3 = wsE B n p - p := (eqW_iff.mp q).1
      have w4 : wsE B n p = p + 3 := by omega
      by_cases c6 : o < 6
      · rw [if_pos c6, w4]
        obtain ⟨u2, e2, c2, f2⟩ := tOpN (b := 3) c6 (by decide) c1 l1 (by omega)
        rw [show mX9_opens u1 3 = some u2 from e2]
        simp only [ob_q]
        obtain ⟨u3, e3, c3, f3⟩ := hg3 c6 _ _ _ c2
        rw [e3]
        simp only [ob_q]
        obtain ⟨c4, f4⟩ := tClose c3
        obtain ⟨u5, e5, c5, f5⟩ := tTells c4 10033
        rw [e5]
        exact ⟨u5, rfl, c5, (((f1.tr f2).tr f3).tr f4).tr f5⟩
      · rw [if_neg c6]
        obtain ⟨u2, e2, c2, f2⟩ := tOpY (b := 3) (show o = 6 by omega) (by decide) c1 l1
        rw [show mX9_opens u1 3 = some u2 from e2]
        simp only [ob_q]
        obtain ⟨u3, e3, c3, f3⟩ := E3 u2 _ c2
        rw [e3]
        simp only [ob_q]
        have c4 : RPs B n (.error (3, p)) (wI u3 9 0 5 (gI u3 9 0 5 - 1)) := tCloseE c3
        have f4 : RF u3 (wI u3 9 0 5 (gI u3 9 0 5 - 1)) := Fr.rf.w9 (by decide)
        obtain ⟨u5, e5, c5, f5⟩ := tTells (k := k) (o := o) (s := .error (3, p)) (RLs.er c4) 10033
        rw [e5]
        exact ⟨u5, rfl, c5, (((f1.tr f2).tr f3).tr f4).tr f5⟩
    · rw [if_neg q] at wd
      rw [wd, if_neg (show ¬ (none : Option Nat) = some 0 by simp), eq_false_of_ne_true q, if_pos (show bI false = 0 from rfl), rAt l1]
      simp only [ob_q]
      by_cases hs : sgB B n p 91 = true
      · have hb : bAt B n p = 91 := (sgb (by decide) hsk).mpr hs
        have hlt := bAt_in (by decide) hb
        rw [if_pos hb, if_pos hs]
        by_cases c6 : o < 6
        · rw [if_pos c6]
          obtain ⟨u2, e2, c2, f2⟩ := tOpN (b := 1) c6 (by decide) c1 l1 (by omega)
          rw [show mX9_opens u1 1 = some u2 from e2]
          simp only [ob_q]
          obtain ⟨u3, e3, c3, f3⟩ := hg5 c6 _ _ _ c2
          rw [e3]
          simp only [ob_q]
          obtain ⟨u4, e4, c4, f4⟩ := tSgS (ch := 93) (by decide) c3
          rw [e4]
          simp only [ob_q]
          obtain ⟨c5, f5⟩ := tClose c4
          exact ⟨_, rfl, c5.wk, (((f1.tr f2).tr f3).tr f4).tr f5⟩
        · rw [if_neg c6]
          obtain ⟨u2, e2, c2, f2⟩ := tOpY (b := 1) (show o = 6 by omega) (by decide) c1 l1
          rw [show mX9_opens u1 1 = some u2 from e2]
          simp only [ob_q]
          obtain ⟨u3, e3, c3, f3⟩ := E5 u2 _ c2
          rw [e3]
          simp only [ob_q]
          obtain ⟨u4, e4, f4, c4⟩ := tSignS (.error (3, p)) (ch := 93) (by decide) c3
          rw [e4]
          simp only [ob_q]
          have c5 : RPs B n (.error (3, p)) (wI u4 9 0 5 (gI u4 9 0 5 - 1)) := tCloseE c4
          have f5 : RF u4 (wI u4 9 0 5 (gI u4 9 0 5 - 1)) := Fr.rf.w9 (by decide)
          exact ⟨_, rfl, RLs.er c5, (((f1.tr f2).tr f3).tr (RF.of f4 (by decide))).tr f5⟩
      · have hb : ¬ bAt B n p = 91 := fun z => hs ((sgb (by decide) hsk).mp z)
        rw [if_neg hb, if_neg hs]
        obtain ⟨u2, e2, c2, f2⟩ := hg2 _ _ _ c1
        rw [e2]
        simp only [ob_q]
        cases hA : f0 (.ok (p, c)) with
        | error e =>
          rw [hA] at c2
          obtain ⟨-, h0, h6, -⟩ := c2.1
          rw [if_neg (by rw [h6]; exact h0)]
          exact ⟨u2, rfl, c2, f1.tr f2⟩
        | ok z =>
          rw [hA] at c2
          obtain ⟨z1, z2⟩ := z
          rw [if_pos c2.1.2.1]
          obtain ⟨u3, e3, c3, f3, l3⟩ := tBlL c2
          have l3 : LexR B n z1 u3 := l3 _ rfl
          have hz := c3.1.le
          have hzn : z1 ≤ n := hz.1
          have hzk : sk B n z1 = z1 := hz.2.2
          rw [e3]
          simp only [ob_q]
          rw [rAt l3]
          simp only [ob_q]
          have sg : sgO 9 B n z1 = if bAt B n z1 = 60 then some 0 else if bAt B n z1 = 62 then some 1 else if bAt B n z1 = 61 then some 2 else none := sg3 rfl hzk (by decide) (by decide) (by decide)
          by_cases q0 : bAt B n z1 = 60 ∨ bAt B n z1 = 62 ∨ bAt B n z1 = 61
          · obtain ⟨j, hj⟩ : ∃ j, sgO 9 B n z1 = some j := by
              rw [sg]
              rcases q0 with q | q | q
              · exact ⟨0, by rw [if_pos q]⟩
              · exact ⟨1, by rw [if_neg (by rw [q]; decide), if_pos q]⟩
              · exact ⟨2, by rw [if_neg (by rw [q]; decide), if_neg (by rw [q]; decide), if_pos q]⟩
            have hlt : z1 < n := by
              rcases q0 with q | q | q
              · exact bAt_in (by decide) q
              · exact bAt_in (by decide) q
              · exact bAt_in (by decide) q
            have hfirst : (if bAt B n z1 = 60 then some u3 else if bAt B n z1 = 62 then some u3 else if bAt B n z1 = 61 then some u3 else (mX9_wrongAt u3 1 (gI u3 9 0 4)).bind fun u131 => some u131 : Option HS) = some u3 := by
              rcases q0 with q | q | q
              · rw [if_pos q]
              · rw [if_neg (by rw [q]; decide), if_pos q]
              · rw [if_neg (by rw [q]; decide), if_neg (by rw [q]; decide), if_pos q]
            have hx : (if bAt B n z1 = 60 then some 10030 else if bAt B n z1 = 62 then some 10031 else some 10032 : Option Int32) = some (nI (10030 + j)) := by
              rw [sg] at hj
              rcases q0 with q | q | q
              · rw [if_pos q] at hj ⊢
                injection hj with hj; rw [← hj]; rfl
              · rw [if_neg (by rw [q]; decide), if_pos q] at hj ⊢
                injection hj with hj; rw [← hj]; rfl
              · rw [if_neg (by rw [q]; decide), if_neg (by rw [q]; decide), if_pos q] at hj
                rw [if_neg (by rw [q]; decide), if_neg (by rw [q]; decide)]
                injection hj with hj; rw [← hj]; rfl
            rw [hfirst, hj]
            simp only [ob_q]
            obtain ⟨c4, f4⟩ := tAdv c3 l3 hlt
            obtain ⟨u5, e5, c5, f5⟩ := hg2 _ _ _ c4
            rw [e5]
            simp only [ob_q]
            rw [hx]
            simp only [ob_q]
            obtain ⟨u6, e6, c6, f6⟩ := tTells c5 (nI (10030 + j))
            rw [e6]
            exact ⟨u6, rfl, c6, ((((f1.tr f2).tr f3).tr f4).tr f5).tr f6⟩
          · have n1 : ¬ bAt B n z1 = 60 := fun q => q0 (Or.inl q)
            have n2 : ¬ bAt B n z1 = 62 := fun q => q0 (Or.inr (Or.inl q))
            have n3 : ¬ bAt B n z1 = 61 := fun q => q0 (Or.inr (Or.inr q))
            rw [show sgO 9 B n z1 = none from by rw [sg, if_neg n1, if_neg n2, if_neg n3]]
            rw [if_neg n1, if_neg n2, if_neg n3, l3.2.2.1]
            obtain ⟨u4, e4, f4, b4, -⟩ := rWrong (u := u3) 1 (nI z1)
            obtain ⟨b6, b7⟩ := b4 c3.1.2.1
            rw [e4]
            simp only [ob_q]
            have l4 : LexR B n z1 u4 := l3.fr f4 (by simp) (by decide) (by decide)
            have F : Fr [] [4] u4 (wI u4 9 0 4 (gI u4 9 0 4 + 1)) := Fr.rf.w9 (by decide)
            have c5 : RPs B n (.error (1, z1)) (wI u4 9 0 4 (gI u4 9 0 4 + 1)) := ⟨⟨z1 + 1, by rw [F.2.1 2 (by decide)]; exact l4.1, l4.2.1, by rw [gI_eq, l4.2.2.1, nI_1], by omega, fun k hk => by rw [F.1 60 (by simp) (by decide)]; exact l4.2.2.2.2 k hk⟩, show (1 : Int32) ≠ 0 by decide, by rw [gI_k (by decide)]; exact b6, by rw [gI_k (by decide)]; exact b7⟩
            obtain ⟨u6, e6, c6, f6⟩ := E2 _ _ c5
            rw [e6]
            simp only [ob_q]
            have hx : ∃ x, (some 10032 : Option Int32) = some x := ⟨_, rfl⟩
            obtain ⟨u7, e7, c7, f7⟩ := tTells (k := k) (o := o) (s := .error (1, z1)) (RLs.er c6) 10032
            rw [if_neg n1, if_neg n2]
            simp only [ob_q]
            rw [e7]
            exact ⟨u7, rfl, c7, (((((f1.tr f2).tr f3).tr (RF.of f4 (by decide))).tr (RF.of F (by decide))).tr f6).tr f7⟩
/-! behind a fault -/
theorem eU {B : Nat → Int32} {n d : Nat} : ErR B n (recX9 (d + 1) 0) := by
  intro u e h
  have h' := h
  obtain ⟨-, h0, h6, -⟩ := h
  rw [recX9.eq_2, if_pos rfl, tUnit_eq, if_neg (by rw [h6]; exact h0)]
  exact ⟨u, rfl, h', RF.rf⟩
theorem eT {B : Nat → Int32} {n d : Nat} : ErR B n (recX9 (d + 1) 3) := by
  intro u e h
  have h' := h
  obtain ⟨-, h0, h6, -⟩ := h
  rw [recX9.eq_2, if_neg (by decide), if_neg (by decide), if_neg (by decide), if_pos rfl]
  unfold mX9_test_b
  rw [if_neg (by rw [h6]; exact h0)]
  exact ⟨u, rfl, h', RF.rf⟩
theorem eP {B : Nat → Int32} {n d : Nat} : ErR B n (recX9 (d + 2) 1) := by
  intro u e h
  rw [recX9.eq_2, if_neg (by decide), if_pos rfl]
  unfold mX9_product_b
  obtain ⟨u1, e1, c1, f1⟩ := eU (d := d) u e h
  rw [e1]
  simp only [ob_q, jp_q]
  obtain ⟨u2, e2, f2, c2, -⟩ := tBlS (.error e) c1
  rw [e2]
  simp only [ob_q]
  have c2' := c2
  obtain ⟨-, h0, h6, -⟩ := c2'
  rw [show FU = 4095 + 1 from rfl, mX9_product_b_L8.eq_2, if_neg (by rw [h6]; exact h0)]
  exact ⟨u2, rfl, c2, f1.tr (RF.of f2 (by decide))⟩
theorem eS {B : Nat → Int32} {n d : Nat} : ErR B n (recX9 (d + 3) 2) := by
  intro u e h
  rw [recX9.eq_2, if_neg (by decide), if_neg (by decide), if_pos rfl]
  unfold mX9_sum_b
  obtain ⟨u1, e1, c1, f1⟩ := eP (d := d) u e h
  rw [e1]
  simp only [ob_q, jp_q]
  obtain ⟨u2, e2, f2, c2, -⟩ := tBlS (.error e) c1
  rw [e2]
  simp only [ob_q]
  have c2' := c2
  obtain ⟨-, h0, h6, -⟩ := c2'
  rw [show FU = 4095 + 1 from rfl, mX9_sum_b_L8.eq_2, if_neg (by rw [h6]; exact h0)]
  exact ⟨u2, rfl, c2, f1.tr (RF.of f2 (by decide))⟩
theorem eA {B : Nat → Int32} {n d : Nat} : ErR B n (recX9 (d + 2) 4) := by
  intro u e h
  rw [recX9.eq_2, if_neg (by decide), if_neg (by decide), if_neg (by decide), if_neg (by decide), if_pos rfl]
  unfold mX9_ands_b
  obtain ⟨u1, e1, c1, f1⟩ := eT (d := d) u e h
  rw [e1]
  simp only [ob_q, jp_q]
  have c1' := c1
  obtain ⟨-, h0, h6, -⟩ := c1'
  rw [show FU = 4095 + 1 from rfl, mX9_ands_b_L4.eq_2, tIsWE (by rw [h6]; exact h0)]
  simp only [ob_q, bd_q, if_true]
  exact ⟨u1, rfl, c1, f1⟩
theorem eO {B : Nat → Int32} {n d : Nat} : ErR B n (recX9 (d + 3) 5) := by
  intro u e h
  rw [recX9.eq_2, if_neg (by decide), if_neg (by decide), if_neg (by decide), if_neg (by decide), if_neg (by decide)]
  unfold mX9_ors_b
  obtain ⟨u1, e1, c1, f1⟩ := eA (d := d) u e h
  rw [e1]
  simp only [ob_q, jp_q]
  have c1' := c1
  obtain ⟨-, h0, h6, -⟩ := c1'
  rw [show FU = 4095 + 1 from rfl, mX9_ors_b_L4.eq_2, tIsWE (by rw [h6]; exact h0)]
  simp only [ob_q, bd_q, if_true]
  exact ⟨u1, rfl, c1, f1⟩
/-- where the reference has a reader -/
def pmW (w : Nat) : Nat := if w = 0 then 2 else if w = 1 then 1 else if w = 2 then 0 else if w = 3 then 5 else if w = 4 then 4 else 3
/-- the whole group -/
theorem tGrp {B : Nat → Int32} {n : Nat} (hn : n ≤ 400) : ∀ d w o, w < 6 → o ≤ 6 → gNd w o + 4 ≤ d → SubR B n (recX9 d (pmW w)) o (gS B n d w o) := by
  intro d
  induction d with
  | zero => intro w o hw ho hd; omega
  | succ d ih =>
    intro w o hw ho hd
    obtain ⟨d', rfl⟩ : ∃ d', d = d' + 3 := ⟨d - 3, by omega⟩
    match w, hw with
    | 0, _ =>
      have hd' : (6 - o) * 6 + 3 + 4 ≤ d' + 3 + 1 := hd
      have I := ih 1 o (by decide) ho (show (6 - o) * 6 + 2 + 4 ≤ d' + 3 by omega)
      have K := gS_ok (B := B) (n := n) (d' + 3) 1 o (by decide) ho (show (6 - o) * 6 + 2 ≤ d' + 3 by omega)
      intro k s u h
      show ∃ u', recX9 (d' + 3 + 1) 2 u = some u' ∧ _
      rw [recX9.eq_2, if_neg (by decide), if_neg (by decide), if_pos rfl, gS_0]
      unfold mX9_sum_b
      obtain ⟨u1, e1, c1, f1⟩ := I k s u h
      have e1 : recX9 (d' + 3) 1 u = some u1 := e1
      rw [e1]
      simp only [ob_q, jp_q]
      obtain ⟨u2, e2, c2, f2, l2⟩ := tBlL c1
      rw [e2]
      simp only [ob_q]
      obtain ⟨u3, e3, c3, f3⟩ := tL_sum (g0 := recX9 (d' + 3) 0) (g1 := recX9 (d' + 3) 1) (g2 := recX9 (d' + 3) 2) (g3 := recX9 (d' + 3) 3) (g4 := recX9 (d' + 3) 4) (g5 := recX9 (d' + 3) 5) (w := fun u106 => some u106) I K 401 FU k _ u2 (FU_lt (by decide)) (fun pc _ => by omega) c2 l2
      exact ⟨u3, e3, c3, (f1.tr f2).tr f3⟩
    | 1, _ =>
      have hd' : (6 - o) * 6 + 2 + 4 ≤ d' + 3 + 1 := hd
      have I := ih 2 o (by decide) ho (show (6 - o) * 6 + 1 + 4 ≤ d' + 3 by omega)
      have K := gS_ok (B := B) (n := n) (d' + 3) 2 o (by decide) ho (show (6 - o) * 6 + 1 ≤ d' + 3 by omega)
      intro k s u h
      show ∃ u', recX9 (d' + 3 + 1) 1 u = some u' ∧ _
      rw [recX9.eq_2, if_neg (by decide), if_pos rfl, gS_1]
      unfold mX9_product_b
      obtain ⟨u1, e1, c1, f1⟩ := I k s u h
      have e1 : recX9 (d' + 3) 0 u = some u1 := e1
      rw [e1]
      simp only [ob_q, jp_q]
      obtain ⟨u2, e2, c2, f2, l2⟩ := tBlL c1
      rw [e2]
      simp only [ob_q]
      obtain ⟨u3, e3, c3, f3⟩ := tL_prod (g0 := recX9 (d' + 3) 0) (g1 := recX9 (d' + 3) 1) (g2 := recX9 (d' + 3) 2) (g3 := recX9 (d' + 3) 3) (g4 := recX9 (d' + 3) 4) (g5 := recX9 (d' + 3) 5) (w := fun u106 => some u106) I K 401 FU k _ u2 (FU_lt (by decide)) (fun pc _ => by omega) c2 l2
      exact ⟨u3, e3, c3, (f1.tr f2).tr f3⟩
    | 2, _ =>
      have hd' : (6 - o) * 6 + 1 + 4 ≤ d' + 3 + 1 := hd
      intro k s u h
      show ∃ u', recX9 (d' + 3 + 1) 0 u = some u' ∧ _
      rw [recX9.eq_2, if_pos rfl, gS_2]
      exact tUnit (g0 := recX9 (d' + 3) 0) (g1 := recX9 (d' + 3) 1) (g2 := recX9 (d' + 3) 2) (g3 := recX9 (d' + 3) 3) (g4 := recX9 (d' + 3) 4) (g5 := recX9 (d' + 3) 5) ho eS (fun hh => ih 0 (o + 1) (by decide) (by omega) (show (6 - (o + 1)) * 6 + 3 + 4 ≤ d' + 3 by omega)) k s u h
    | 3, _ =>
      have hd' : (6 - o) * 6 + 6 + 4 ≤ d' + 3 + 1 := hd
      have I := ih 4 o (by decide) ho (show (6 - o) * 6 + 5 + 4 ≤ d' + 3 by omega)
      have K := gS_ok (B := B) (n := n) (d' + 3) 4 o (by decide) ho (show (6 - o) * 6 + 5 ≤ d' + 3 by omega)
      intro k s u h
      show ∃ u', recX9 (d' + 3 + 1) 5 u = some u' ∧ _
      rw [recX9.eq_2, if_neg (by decide), if_neg (by decide), if_neg (by decide), if_neg (by decide), if_neg (by decide), gS_3]
      unfold mX9_ors_b
      obtain ⟨u1, e1, c1, f1⟩ := I k s u h
      have e1 : recX9 (d' + 3) 4 u = some u1 := e1
      rw [e1]
      simp only [ob_q, jp_q]
      obtain ⟨u3, e3, c3, f3⟩ := tL_ors (g0 := recX9 (d' + 3) 0) (g1 := recX9 (d' + 3) 1) (g2 := recX9 (d' + 3) 2) (g3 := recX9 (d' + 3) 3) (g4 := recX9 (d' + 3) 4) (g5 := recX9 (d' + 3) 5) (w := fun u106 => some u106) I K 401 FU k _ u1 (FU_lt (by decide)) (fun pc _ => by omega) c1
      exact ⟨u3, e3, c3, f1.tr f3⟩
    | 4, _ =>
      have hd' : (6 - o) * 6 + 5 + 4 ≤ d' + 3 + 1 := hd
      have I := ih 5 o (by decide) ho (show (6 - o) * 6 + 4 + 4 ≤ d' + 3 by omega)
      have K := gS_ok (B := B) (n := n) (d' + 3) 5 o (by decide) ho (show (6 - o) * 6 + 4 ≤ d' + 3 by omega)
      intro k s u h
      show ∃ u', recX9 (d' + 3 + 1) 4 u = some u' ∧ _
      rw [recX9.eq_2, if_neg (by decide), if_neg (by decide), if_neg (by decide), if_neg (by decide), if_pos rfl, gS_4]
      unfold mX9_ands_b
      obtain ⟨u1, e1, c1, f1⟩ := I k s u h
      have e1 : recX9 (d' + 3) 3 u = some u1 := e1
      rw [e1]
      simp only [ob_q, jp_q]
      obtain ⟨u3, e3, c3, f3⟩ := tL_ands (g0 := recX9 (d' + 3) 0) (g1 := recX9 (d' + 3) 1) (g2 := recX9 (d' + 3) 2) (g3 := recX9 (d' + 3) 3) (g4 := recX9 (d' + 3) 4) (g5 := recX9 (d' + 3) 5) (w := fun u106 => some u106) I K 401 FU k _ u1 (FU_lt (by decide)) (fun pc _ => by omega) c1
      exact ⟨u3, e3, c3, f1.tr f3⟩
    | 5, _ =>
      have hd' : (6 - o) * 6 + 4 + 4 ≤ d' + 3 + 1 := hd
      intro k s u h
      show ∃ u', recX9 (d' + 3 + 1) 3 u = some u' ∧ _
      rw [recX9.eq_2, if_neg (by decide), if_neg (by decide), if_neg (by decide), if_pos rfl, gS_5]
      exact tTest (g0 := recX9 (d' + 3) 0) (g1 := recX9 (d' + 3) 1) (g2 := recX9 (d' + 3) 2) (g3 := recX9 (d' + 3) 3) (g4 := recX9 (d' + 3) 4) (g5 := recX9 (d' + 3) 5) ho eS (eT (d := d' + 2)) eO (fun hh => ih 5 (o + 1) (by decide) (by omega) (show (6 - (o + 1)) * 6 + 4 + 4 ≤ d' + 3 by omega)) (fun hh => ih 3 (o + 1) (by decide) (by omega) (show (6 - (o + 1)) * 6 + 6 + 4 ≤ d' + 3 by omega)) (ih 0 o (by decide) ho (show (6 - o) * 6 + 3 + 4 ≤ d' + 3 by omega)) k s u h
