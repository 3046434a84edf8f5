theorem wd10 {B : Nat → Int32} {q len : Nat} : wdR B q len (bytC.getD 10 []) 0 (some 0) = if eqW B q len [103, 101, 116, 115] = true then some 0 else if eqW B q len [108, 105, 110, 101] = true then some 1 else if eqW B q len [107, 101, 101, 112, 115] = true then some 2 else if eqW B q len [115, 117, 114, 101] = true then some 3 else none := by
  show wdR B q len (([103, 101, 116, 115] : List Int32) ++ 32 :: (([108, 105, 110, 101] : List Int32) ++ 32 :: (([107, 101, 101, 112, 115] : List Int32) ++ 32 :: (([115, 117, 114, 101] : List Int32) ++ 32 :: [])))) 0 (some 0) = _
  rw [wdR_eq _ _ _ (by decide), wdR_eq _ _ _ (by decide), wdR_eq _ _ _ (by decide), wdR_eq _ _ _ (by decide)]; rfl
theorem wr10 {B : Nat → Int32} (q : Nat) : wdR B q 0 (bytC.getD 10 []) 0 (some 0) = none := by
  rw [wd10, eqW_0 (by decide), eqW_0 (by decide), eqW_0 (by decide), eqW_0 (by decide)]; rfl
theorem wd10_lt {B : Nat → Int32} {n p j : Nat} (h : wdO 10 B n p = some j) : j < 4 := by
  unfold wdO at h
  rw [wd10] at h
  by_cases e0 : eqW B (sk B n p) (wsE B n p - sk B n p) [103, 101, 116, 115] = true
  · rw [if_pos e0] at h; injection h with h; omega
  rw [if_neg e0] at h
  by_cases e1 : eqW B (sk B n p) (wsE B n p - sk B n p) [108, 105, 110, 101] = true
  · rw [if_pos e1] at h; injection h with h; omega
  rw [if_neg e1] at h
  by_cases e2 : eqW B (sk B n p) (wsE B n p - sk B n p) [107, 101, 101, 112, 115] = true
  · rw [if_pos e2] at h; injection h with h; omega
  rw [if_neg e2] at h
  by_cases e3 : eqW B (sk B n p) (wsE B n p - sk B n p) [115, 117, 114, 101] = true
  · rw [if_pos e3] at h; injection h with h; omega
  rw [if_neg e3] at h
  cases h
theorem tNameHere {B : Nat → Int32} {n p : Nat} {u : HS} (h : LexR B n p u) (h6 : gI u 9 0 6 = 0) : ∃ u', mX9_nameHere u = some ((wdO 14 B n p).elim (-1) nI, u') ∧ LexR B n (sk B n p) u' ∧ Fr [] [4] u u' := by
  have hp := h.2.2.2.1
  have w0 : mX9_word 12 9 11 5 0 0 = some (nI (vN (wdV [108, 105, 107, 101]) ([108, 105, 107, 101] : List Int32).length)) := by decide
  have q0 := wv_eq (B := B) hp [108, 105, 107, 101] (by decide) (by decide)
  have w1 : mX9_word 4 18 15 16 0 0 = some (nI (vN (wdV [100, 114, 111, 112]) ([100, 114, 111, 112] : List Int32).length)) := by decide
  have q1 := wv_eq (B := B) hp [100, 114, 111, 112] (by decide) (by decide)
  have w2 : mX9_word 14 5 1 18 0 0 = some (nI (vN (wdV [110, 101, 97, 114]) ([110, 101, 97, 114] : List Int32).length)) := by decide
  have q2 := wv_eq (B := B) hp [110, 101, 97, 114] (by decide) (by decide)
  have w3 : mX9_word 19 9 26 5 0 0 = some (nI (vN (wdV [115, 105, 122, 101]) ([115, 105, 122, 101] : List Int32).length)) := by decide
  have q3 := wv_eq (B := B) hp [115, 105, 122, 101] (by decide) (by decide)
  have w4 : mX9_word 16 1 3 5 0 0 = some (nI (vN (wdV [112, 97, 99, 101]) ([112, 97, 99, 101] : List Int32).length)) := by decide
  have q4 := wv_eq (B := B) hp [112, 97, 99, 101] (by decide) (by decide)
  have w5 : mX9_word 6 21 12 12 0 0 = some (nI (vN (wdV [102, 117, 108, 108]) ([102, 117, 108, 108] : List Int32).length)) := by decide
  have q5 := wv_eq (B := B) hp [102, 117, 108, 108] (by decide) (by decide)
  have w6 : mX9_word 15 4 4 0 0 0 = some (nI (vN (wdV [111, 100, 100]) ([111, 100, 100] : List Int32).length)) := by decide
  have q6 := wv_eq (B := B) hp [111, 100, 100] (by decide) (by decide)
  have w7 : mX9_word 23 1 20 3 8 0 = some (nI (vN (wdV [119, 97, 116, 99, 104]) ([119, 97, 116, 99, 104] : List Int32).length)) := by decide
  have q7 := wv_eq (B := B) hp [119, 97, 116, 99, 104] (by decide) (by decide)
  have w8 : mX9_word 3 8 1 14 7 5 = some (nI (vN (wdV [99, 104, 97, 110, 103, 101]) ([99, 104, 97, 110, 103, 101] : List Int32).length)) := by decide
  have q8 := wv_eq (B := B) hp [99, 104, 97, 110, 103, 101] (by decide) (by decide)
  have w9 : mX9_word 11 14 15 23 19 0 = some (nI (vN (wdV [107, 110, 111, 119, 115]) ([107, 110, 111, 119, 115] : List Int32).length)) := by decide
  have q9 := wv_eq (B := B) hp [107, 110, 111, 119, 115] (by decide) (by decide)
  have w10 : mX9_word 20 5 14 20 8 0 = some (nI (vN (wdV [116, 101, 110, 116, 104]) ([116, 101, 110, 116, 104] : List Int32).length)) := by decide
  have q10 := wv_eq (B := B) hp [116, 101, 110, 116, 104] (by decide) (by decide)
  unfold mX9_nameHere wdO
  rw [wd14]
  obtain ⟨u1, e1, l1, f1⟩ := tIsWord w0 h h6
  have F1 := f1
  rw [e1]
  simp only [ob_q, bd_q]
  by_cases c0 : eqW B (sk B n p) (wsE B n p - sk B n p) [108, 105, 107, 101] = true
  · rw [if_pos c0, decide_eq_true (q0.mpr c0), if_neg (show ¬ bI true = 0 by decide)]
    exact ⟨u1, rfl, l1, F1⟩
  · rw [if_neg c0, decide_eq_false (fun z => c0 (q0.mp z)), if_pos (show bI false = 0 from rfl)]
    obtain ⟨u2, e2, l2, f2⟩ := tIsWord w1 l1 ((F1.2.1 6 (by decide)).trans h6)
    rw [wv_sk hp] at e2
    rw [sk_idem hp] at l2
    have F2 := F1.tr f2
    rw [e2]
    simp only [ob_q, bd_q]
    by_cases c1 : eqW B (sk B n p) (wsE B n p - sk B n p) [100, 114, 111, 112] = true
    · rw [if_pos c1, decide_eq_true (q1.mpr c1), if_neg (show ¬ bI true = 0 by decide)]
      exact ⟨u2, rfl, l2, F2⟩
    · rw [if_neg c1, decide_eq_false (fun z => c1 (q1.mp z)), if_pos (show bI false = 0 from rfl)]
      obtain ⟨u3, e3, l3, f3⟩ := tIsWord w2 l2 ((F2.2.1 6 (by decide)).trans h6)
      rw [wv_sk hp] at e3
      rw [sk_idem hp] at l3
      have F3 := F2.tr f3
      rw [e3]
      simp only [ob_q, bd_q]
      by_cases c2 : eqW B (sk B n p) (wsE B n p - sk B n p) [110, 101, 97, 114] = true
      · rw [if_pos c2, decide_eq_true (q2.mpr c2), if_neg (show ¬ bI true = 0 by decide)]
        exact ⟨u3, rfl, l3, F3⟩
      · rw [if_neg c2, decide_eq_false (fun z => c2 (q2.mp z)), if_pos (show bI false = 0 from rfl)]
        obtain ⟨u4, e4, l4, f4⟩ := tIsWord w3 l3 ((F3.2.1 6 (by decide)).trans h6)
        rw [wv_sk hp] at e4
        rw [sk_idem hp] at l4
        have F4 := F3.tr f4
        rw [e4]
        simp only [ob_q, bd_q]
        by_cases c3 : eqW B (sk B n p) (wsE B n p - sk B n p) [115, 105, 122, 101] = true
        · rw [if_pos c3, decide_eq_true (q3.mpr c3), if_neg (show ¬ bI true = 0 by decide)]
          exact ⟨u4, rfl, l4, F4⟩
        · rw [if_neg c3, decide_eq_false (fun z => c3 (q3.mp z)), if_pos (show bI false = 0 from rfl)]
          obtain ⟨u5, e5, l5, f5⟩ := tIsWord w4 l4 ((F4.2.1 6 (by decide)).trans h6)
          rw [wv_sk hp] at e5
          rw [sk_idem hp] at l5
          have F5 := F4.tr f5
          rw [e5]
          simp only [ob_q, bd_q]
          by_cases c4 : eqW B (sk B n p) (wsE B n p - sk B n p) [112, 97, 99, 101] = true
          · rw [if_pos c4, decide_eq_true (q4.mpr c4), if_neg (show ¬ bI true = 0 by decide)]
            exact ⟨u5, rfl, l5, F5⟩
          · rw [if_neg c4, decide_eq_false (fun z => c4 (q4.mp z)), if_pos (show bI false = 0 from rfl)]
            obtain ⟨u6, e6, l6, f6⟩ := tIsWord w5 l5 ((F5.2.1 6 (by decide)).trans h6)
            rw [wv_sk hp] at e6
            rw [sk_idem hp] at l6
            have F6 := F5.tr f6
            rw [e6]
            simp only [ob_q, bd_q]
            by_cases c5 : eqW B (sk B n p) (wsE B n p - sk B n p) [102, 117, 108, 108] = true
            · rw [if_pos c5, decide_eq_true (q5.mpr c5), if_neg (show ¬ bI true = 0 by decide)]
              exact ⟨u6, rfl, l6, F6⟩
            · rw [if_neg c5, decide_eq_false (fun z => c5 (q5.mp z)), if_pos (show bI false = 0 from rfl)]
              obtain ⟨u7, e7, l7, f7⟩ := tIsWord w6 l6 ((F6.2.1 6 (by decide)).trans h6)
              rw [wv_sk hp] at e7
              rw [sk_idem hp] at l7
              have F7 := F6.tr f7
              rw [e7]
              simp only [ob_q, bd_q]
              by_cases c6 : eqW B (sk B n p) (wsE B n p - sk B n p) [111, 100, 100] = true
              · rw [if_pos c6, decide_eq_true (q6.mpr c6), if_neg (show ¬ bI true = 0 by decide)]
                exact ⟨u7, rfl, l7, F7⟩
              · rw [if_neg c6, decide_eq_false (fun z => c6 (q6.mp z)), if_pos (show bI false = 0 from rfl)]
                obtain ⟨u8, e8, l8, f8⟩ := tIsWord w7 l7 ((F7.2.1 6 (by decide)).trans h6)
                rw [wv_sk hp] at e8
                rw [sk_idem hp] at l8
                have F8 := F7.tr f8
                rw [e8]
                simp only [ob_q, bd_q]
                by_cases c7 : eqW B (sk B n p) (wsE B n p - sk B n p) [119, 97, 116, 99, 104] = true
                · rw [if_pos c7, decide_eq_true (q7.mpr c7), if_neg (show ¬ bI true = 0 by decide)]
                  exact ⟨u8, rfl, l8, F8⟩
                · rw [if_neg c7, decide_eq_false (fun z => c7 (q7.mp z)), if_pos (show bI false = 0 from rfl)]
                  obtain ⟨u9, e9, l9, f9⟩ := tIsWord w8 l8 ((F8.2.1 6 (by decide)).trans h6)
                  rw [wv_sk hp] at e9
                  rw [sk_idem hp] at l9
                  have F9 := F8.tr f9
                  rw [e9]
                  simp only [ob_q, bd_q]
                  by_cases c8 : eqW B (sk B n p) (wsE B n p - sk B n p) [99, 104, 97, 110, 103, 101] = true
                  · rw [if_pos c8, decide_eq_true (q8.mpr c8), if_neg (show ¬ bI true = 0 by decide)]
                    exact ⟨u9, rfl, l9, F9⟩
                  · rw [if_neg c8, decide_eq_false (fun z => c8 (q8.mp z)), if_pos (show bI false = 0 from rfl)]
                    obtain ⟨u10, e10, l10, f10⟩ := tIsWord w9 l9 ((F9.2.1 6 (by decide)).trans h6)
                    rw [wv_sk hp] at e10
                    rw [sk_idem hp] at l10
                    have F10 := F9.tr f10
                    rw [e10]
                    simp only [ob_q, bd_q]
                    by_cases c9 : eqW B (sk B n p) (wsE B n p - sk B n p) [107, 110, 111, 119, 115] = true
                    · rw [if_pos c9, decide_eq_true (q9.mpr c9), if_neg (show ¬ bI true = 0 by decide)]
                      exact ⟨u10, rfl, l10, F10⟩
                    · rw [if_neg c9, decide_eq_false (fun z => c9 (q9.mp z)), if_pos (show bI false = 0 from rfl)]
                      obtain ⟨u11, e11, l11, f11⟩ := tIsWord w10 l10 ((F10.2.1 6 (by decide)).trans h6)
                      rw [wv_sk hp] at e11
                      rw [sk_idem hp] at l11
                      have F11 := F10.tr f11
                      rw [e11]
                      simp only [ob_q, bd_q]
                      by_cases c10 : eqW B (sk B n p) (wsE B n p - sk B n p) [116, 101, 110, 116, 104] = true
                      · rw [if_pos c10, decide_eq_true (q10.mpr c10), if_neg (show ¬ bI true = 0 by decide)]
                        exact ⟨u11, rfl, l11, F11⟩
                      · rw [if_neg c10, decide_eq_false (fun z => c10 (q10.mp z)), if_pos (show bI false = 0 from rfl)]
                        exact ⟨u11, rfl, l11, F11⟩
theorem tLawHere {B : Nat → Int32} {n p : Nat} {u : HS} (h : LexR B n p u) (h6 : gI u 9 0 6 = 0) : ∃ u', mX9_lawHere u = some ((wdO 10 B n p).elim (-1) nI, u') ∧ LexR B n (sk B n p) u' ∧ Fr [] [4] u u' := by
  have hp := h.2.2.2.1
  have w0 : mX9_word 7 5 20 19 0 0 = some (nI (vN (wdV [103, 101, 116, 115]) ([103, 101, 116, 115] : List Int32).length)) := by decide
  have q0 := wv_eq (B := B) hp [103, 101, 116, 115] (by decide) (by decide)
  have w1 : mX9_word 12 9 14 5 0 0 = some (nI (vN (wdV [108, 105, 110, 101]) ([108, 105, 110, 101] : List Int32).length)) := by decide
  have q1 := wv_eq (B := B) hp [108, 105, 110, 101] (by decide) (by decide)
  have w2 : mX9_word 11 5 5 16 19 0 = some (nI (vN (wdV [107, 101, 101, 112, 115]) ([107, 101, 101, 112, 115] : List Int32).length)) := by decide
  have q2 := wv_eq (B := B) hp [107, 101, 101, 112, 115] (by decide) (by decide)
  have w3 : mX9_word 19 21 18 5 0 0 = some (nI (vN (wdV [115, 117, 114, 101]) ([115, 117, 114, 101] : List Int32).length)) := by decide
  have q3 := wv_eq (B := B) hp [115, 117, 114, 101] (by decide) (by decide)
  unfold mX9_lawHere wdO
  rw [wd10]
  obtain ⟨u1, e1, l1, f1⟩ := tIsWord w0 h h6
  have F1 := f1
  rw [e1]
  simp only [ob_q, bd_q]
  by_cases c0 : eqW B (sk B n p) (wsE B n p - sk B n p) [103, 101, 116, 115] = true
  · rw [if_pos c0, decide_eq_true (q0.mpr c0), if_neg (show ¬ bI true = 0 by decide)]
    exact ⟨u1, rfl, l1, F1⟩
  · rw [if_neg c0, decide_eq_false (fun z => c0 (q0.mp z)), if_pos (show bI false = 0 from rfl)]
    obtain ⟨u2, e2, l2, f2⟩ := tIsWord w1 l1 ((F1.2.1 6 (by decide)).trans h6)
    rw [wv_sk hp] at e2
    rw [sk_idem hp] at l2
    have F2 := F1.tr f2
    rw [e2]
    simp only [ob_q, bd_q]
    by_cases c1 : eqW B (sk B n p) (wsE B n p - sk B n p) [108, 105, 110, 101] = true
    · rw [if_pos c1, decide_eq_true (q1.mpr c1), if_neg (show ¬ bI true = 0 by decide)]
      exact ⟨u2, rfl, l2, F2⟩
    · rw [if_neg c1, decide_eq_false (fun z => c1 (q1.mp z)), if_pos (show bI false = 0 from rfl)]
      obtain ⟨u3, e3, l3, f3⟩ := tIsWord w2 l2 ((F2.2.1 6 (by decide)).trans h6)
      rw [wv_sk hp] at e3
      rw [sk_idem hp] at l3
      have F3 := F2.tr f3
      rw [e3]
      simp only [ob_q, bd_q]
      by_cases c2 : eqW B (sk B n p) (wsE B n p - sk B n p) [107, 101, 101, 112, 115] = true
      · rw [if_pos c2, decide_eq_true (q2.mpr c2), if_neg (show ¬ bI true = 0 by decide)]
        exact ⟨u3, rfl, l3, F3⟩
      · rw [if_neg c2, decide_eq_false (fun z => c2 (q2.mp z)), if_pos (show bI false = 0 from rfl)]
        obtain ⟨u4, e4, l4, f4⟩ := tIsWord w3 l3 ((F3.2.1 6 (by decide)).trans h6)
        rw [wv_sk hp] at e4
        rw [sk_idem hp] at l4
        have F4 := F3.tr f4
        rw [e4]
        simp only [ob_q, bd_q]
        by_cases c3 : eqW B (sk B n p) (wsE B n p - sk B n p) [115, 117, 114, 101] = true
        · rw [if_pos c3, decide_eq_true (q3.mpr c3), if_neg (show ¬ bI true = 0 by decide)]
          exact ⟨u4, rfl, l4, F4⟩
        · rw [if_neg c3, decide_eq_false (fun z => c3 (q3.mp z)), if_pos (show bI false = 0 from rfl)]
          exact ⟨u4, rfl, l4, F4⟩
