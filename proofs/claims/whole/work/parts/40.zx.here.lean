theorem wd16 {B : Nat → Int32} {n p : Nat} : wdO 16 B n p = if eqW B (sk B n p) (wsE B n p - sk B n p) [116, 104, 105, 110, 103] = true then some 0 else if eqW B (sk B n p) (wsE B n p - sk B n p) [119, 97, 121] = true then some 1 else if eqW B (sk B n p) (wsE B n p - sk B n p) [116, 104, 114, 111, 119] = true then some 2 else if eqW B (sk B n p) (wsE B n p - sk B n p) [111, 100, 100] = true then some 3 else if eqW B (sk B n p) (wsE B n p - sk B n p) [116, 117, 114, 110] = true then some 4 else none := by
  show wdR B (sk B n p) (wsE B n p - sk B n p) (([116, 104, 105, 110, 103] : List Int32) ++ 32 :: (([119, 97, 121] : List Int32) ++ 32 :: (([116, 104, 114, 111, 119] : List Int32) ++ 32 :: (([111, 100, 100] : List Int32) ++ 32 :: (([116, 117, 114, 110] : List Int32) ++ 32 :: ([])))))) 0 (some 0) = _
  rw [wdR_eq _ _ _ (by decide), wdR_eq _ _ _ (by decide), wdR_eq _ _ _ (by decide), wdR_eq _ _ _ (by decide), wdR_eq _ _ _ (by decide)]
  rfl
theorem tSceneHere {B : Nat → Int32} {n p : Nat} {u : HS} (h : LexR B n p u) (h6 : gI u 9 0 6 = 0) : ∃ u', mX9_sceneHere u = some ((wdO 16 B n p).elim (-1) nI, u') ∧ LexR B n (sk B n p) u' ∧ Fr [] [4] u u' := by
  have hp := h.2.2.2.1
  have hq := (sk_le (B := B) hp).2
  have w0 : mX9_word 20 8 9 14 7 0 = some (nI (vN (wdV [116, 104, 105, 110, 103]) ([116, 104, 105, 110, 103] : List Int32).length)) := by decide
  have q0 := wv_eq (B := B) hp [116, 104, 105, 110, 103] (by decide) (by decide)
  have w1 : mX9_word 23 1 25 0 0 0 = some (nI (vN (wdV [119, 97, 121]) ([119, 97, 121] : List Int32).length)) := by decide
  have q1 := wv_eq (B := B) hp [119, 97, 121] (by decide) (by decide)
  have w2 : mX9_word 20 8 18 15 23 0 = some (nI (vN (wdV [116, 104, 114, 111, 119]) ([116, 104, 114, 111, 119] : List Int32).length)) := by decide
  have q2 := wv_eq (B := B) hp [116, 104, 114, 111, 119] (by decide) (by decide)
  have w3 : mX9_word 15 4 4 0 0 0 = some (nI (vN (wdV [111, 100, 100]) ([111, 100, 100] : List Int32).length)) := by decide
  have q3 := wv_eq (B := B) hp [111, 100, 100] (by decide) (by decide)
  have w4 : mX9_word 20 21 18 14 0 0 = some (nI (vN (wdV [116, 117, 114, 110]) ([116, 117, 114, 110] : List Int32).length)) := by decide
  have q4 := wv_eq (B := B) hp [116, 117, 114, 110] (by decide) (by decide)
  unfold mX9_sceneHere
  rw [wd16]
  obtain ⟨u1, e1, l1, f1⟩ := tIsWord w0 h h6
  have F1 := f1
  rw [e1]
  simp only [ob_q, bd_q]
  by_cases c0 : eqW B (sk B n p) (wsE B n p - sk B n p) [116, 104, 105, 110, 103] = true
  · rw [if_pos c0, decide_eq_true (q0.mpr c0), if_neg (show ¬ bI true = 0 by decide)]
    exact ⟨u1, rfl, l1, F1⟩
  · rw [if_neg c0, decide_eq_false (fun z => c0 (q0.mp z)), if_pos (show bI false = 0 from rfl)]
    obtain ⟨u2, e2, l2, f2⟩ := tIsWord w1 l1 ((F1.2.1 6 (by decide)).trans h6)
    rw [wv_sk hp] at e2
    rw [sk_idem hp] at l2
    have F2 := F1.tr f2
    rw [e2]
    simp only [ob_q, bd_q]
    by_cases c1 : eqW B (sk B n p) (wsE B n p - sk B n p) [119, 97, 121] = true
    · rw [if_pos c1, decide_eq_true (q1.mpr c1), if_neg (show ¬ bI true = 0 by decide)]
      exact ⟨u2, rfl, l2, F2⟩
    · rw [if_neg c1, decide_eq_false (fun z => c1 (q1.mp z)), if_pos (show bI false = 0 from rfl)]
      obtain ⟨u3, e3, l3, f3⟩ := tIsWord w2 l2 ((F2.2.1 6 (by decide)).trans h6)
      rw [wv_sk hp] at e3
      rw [sk_idem hp] at l3
      have F3 := F2.tr f3
      rw [e3]
      simp only [ob_q, bd_q]
      by_cases c2 : eqW B (sk B n p) (wsE B n p - sk B n p) [116, 104, 114, 111, 119] = true
      · rw [if_pos c2, decide_eq_true (q2.mpr c2), if_neg (show ¬ bI true = 0 by decide)]
        exact ⟨u3, rfl, l3, F3⟩
      · rw [if_neg c2, decide_eq_false (fun z => c2 (q2.mp z)), if_pos (show bI false = 0 from rfl)]
        obtain ⟨u4, e4, l4, f4⟩ := tIsWord w3 l3 ((F3.2.1 6 (by decide)).trans h6)
        rw [wv_sk hp] at e4
        rw [sk_idem hp] at l4
        have F4 := F3.tr f4
        rw [e4]
        simp only [ob_q, bd_q]
        by_cases c3 : eqW B (sk B n p) (wsE B n p - sk B n p) [111, 100, 100] = true
        · rw [if_pos c3, decide_eq_true (q3.mpr c3), if_neg (show ¬ bI true = 0 by decide)]
          exact ⟨u4, rfl, l4, F4⟩
        · rw [if_neg c3, decide_eq_false (fun z => c3 (q3.mp z)), if_pos (show bI false = 0 from rfl)]
          obtain ⟨u5, e5, l5, f5⟩ := tIsWord w4 l4 ((F4.2.1 6 (by decide)).trans h6)
          rw [wv_sk hp] at e5
          rw [sk_idem hp] at l5
          have F5 := F4.tr f5
          rw [e5]
          simp only [ob_q, bd_q]
          by_cases c4 : eqW B (sk B n p) (wsE B n p - sk B n p) [116, 117, 114, 110] = true
          · rw [if_pos c4, decide_eq_true (q4.mpr c4), if_neg (show ¬ bI true = 0 by decide)]
            exact ⟨u5, rfl, l5, F5⟩
          · rw [if_neg c4, decide_eq_false (fun z => c4 (q4.mp z)), if_pos (show bI false = 0 from rfl)]
            exact ⟨u5, rfl, l5, F5⟩
theorem wd17 {B : Nat → Int32} {n p : Nat} : wdO 17 B n p = if eqW B (sk B n p) (wsE B n p - sk B n p) [107, 101, 101, 112] = true then some 0 else if eqW B (sk B n p) (wsE B n p - sk B n p) [100, 114, 111, 112] = true then some 1 else if eqW B (sk B n p) (wsE B n p - sk B n p) [99, 111, 117, 110, 116] = true then some 2 else if eqW B (sk B n p) (wsE B n p - sk B n p) [114, 111, 111, 109] = true then some 3 else if eqW B (sk B n p) (wsE B n p - sk B n p) [119, 97, 116, 99, 104] = true then some 4 else none := by
  show wdR B (sk B n p) (wsE B n p - sk B n p) (([107, 101, 101, 112] : List Int32) ++ 32 :: (([100, 114, 111, 112] : List Int32) ++ 32 :: (([99, 111, 117, 110, 116] : List Int32) ++ 32 :: (([114, 111, 111, 109] : List Int32) ++ 32 :: (([119, 97, 116, 99, 104] : List Int32) ++ 32 :: ([])))))) 0 (some 0) = _
  rw [wdR_eq _ _ _ (by decide), wdR_eq _ _ _ (by decide), wdR_eq _ _ _ (by decide), wdR_eq _ _ _ (by decide), wdR_eq _ _ _ (by decide)]
  rfl
theorem tTaskHere {B : Nat → Int32} {n p : Nat} {u : HS} (h : LexR B n p u) (h6 : gI u 9 0 6 = 0) : ∃ u', mX9_taskHere u = some ((wdO 17 B n p).elim (-1) nI, u') ∧ LexR B n (sk B n p) u' ∧ Fr [] [4] u u' := by
  have hp := h.2.2.2.1
  have hq := (sk_le (B := B) hp).2
  have w0 : mX9_word 11 5 5 16 0 0 = some (nI (vN (wdV [107, 101, 101, 112]) ([107, 101, 101, 112] : List Int32).length)) := by decide
  have q0 := wv_eq (B := B) hp [107, 101, 101, 112] (by decide) (by decide)
  have w1 : mX9_word 4 18 15 16 0 0 = some (nI (vN (wdV [100, 114, 111, 112]) ([100, 114, 111, 112] : List Int32).length)) := by decide
  have q1 := wv_eq (B := B) hp [100, 114, 111, 112] (by decide) (by decide)
  have w2 : mX9_word 3 15 21 14 20 0 = some (nI (vN (wdV [99, 111, 117, 110, 116]) ([99, 111, 117, 110, 116] : List Int32).length)) := by decide
  have q2 := wv_eq (B := B) hp [99, 111, 117, 110, 116] (by decide) (by decide)
  have w3 : mX9_word 18 15 15 13 0 0 = some (nI (vN (wdV [114, 111, 111, 109]) ([114, 111, 111, 109] : List Int32).length)) := by decide
  have q3 := wv_eq (B := B) hp [114, 111, 111, 109] (by decide) (by decide)
  have w4 : mX9_word 23 1 20 3 8 0 = some (nI (vN (wdV [119, 97, 116, 99, 104]) ([119, 97, 116, 99, 104] : List Int32).length)) := by decide
  have q4 := wv_eq (B := B) hp [119, 97, 116, 99, 104] (by decide) (by decide)
  unfold mX9_taskHere
  rw [wd17]
  obtain ⟨u1, e1, l1, f1⟩ := tIsWord w0 h h6
  have F1 := f1
  rw [e1]
  simp only [ob_q, bd_q]
  by_cases c0 : eqW B (sk B n p) (wsE B n p - sk B n p) [107, 101, 101, 112] = true
  · rw [if_pos c0, decide_eq_true (q0.mpr c0), if_neg (show ¬ bI true = 0 by decide)]
    exact ⟨u1, rfl, l1, F1⟩
  · rw [if_neg c0, decide_eq_false (fun z => c0 (q0.mp z)), if_pos (show bI false = 0 from rfl)]
    obtain ⟨u2, e2, l2, f2⟩ := tIsWord w1 l1 ((F1.2.1 6 (by decide)).trans h6)
    rw [wv_sk hp] at e2
    rw [sk_idem hp] at l2
    have F2 := F1.tr f2
    rw [e2]
    simp only [ob_q, bd_q]
    by_cases c1 : eqW B (sk B n p) (wsE B n p - sk B n p) [100, 114, 111, 112] = true
    · rw [if_pos c1, decide_eq_true (q1.mpr c1), if_neg (show ¬ bI true = 0 by decide)]
      exact ⟨u2, rfl, l2, F2⟩
    · rw [if_neg c1, decide_eq_false (fun z => c1 (q1.mp z)), if_pos (show bI false = 0 from rfl)]
      obtain ⟨u3, e3, l3, f3⟩ := tIsWord w2 l2 ((F2.2.1 6 (by decide)).trans h6)
      rw [wv_sk hp] at e3
      rw [sk_idem hp] at l3
      have F3 := F2.tr f3
      rw [e3]
      simp only [ob_q, bd_q]
      by_cases c2 : eqW B (sk B n p) (wsE B n p - sk B n p) [99, 111, 117, 110, 116] = true
      · rw [if_pos c2, decide_eq_true (q2.mpr c2), if_neg (show ¬ bI true = 0 by decide)]
        exact ⟨u3, rfl, l3, F3⟩
      · rw [if_neg c2, decide_eq_false (fun z => c2 (q2.mp z)), if_pos (show bI false = 0 from rfl)]
        obtain ⟨u4, e4, l4, f4⟩ := tIsWord w3 l3 ((F3.2.1 6 (by decide)).trans h6)
        rw [wv_sk hp] at e4
        rw [sk_idem hp] at l4
        have F4 := F3.tr f4
        rw [e4]
        simp only [ob_q, bd_q]
        by_cases c3 : eqW B (sk B n p) (wsE B n p - sk B n p) [114, 111, 111, 109] = true
        · rw [if_pos c3, decide_eq_true (q3.mpr c3), if_neg (show ¬ bI true = 0 by decide)]
          exact ⟨u4, rfl, l4, F4⟩
        · rw [if_neg c3, decide_eq_false (fun z => c3 (q3.mp z)), if_pos (show bI false = 0 from rfl)]
          obtain ⟨u5, e5, l5, f5⟩ := tIsWord w4 l4 ((F4.2.1 6 (by decide)).trans h6)
          rw [wv_sk hp] at e5
          rw [sk_idem hp] at l5
          have F5 := F4.tr f5
          rw [e5]
          simp only [ob_q, bd_q]
          by_cases c4 : eqW B (sk B n p) (wsE B n p - sk B n p) [119, 97, 116, 99, 104] = true
          · rw [if_pos c4, decide_eq_true (q4.mpr c4), if_neg (show ¬ bI true = 0 by decide)]
            exact ⟨u5, rfl, l5, F5⟩
          · rw [if_neg c4, decide_eq_false (fun z => c4 (q4.mp z)), if_pos (show bI false = 0 from rfl)]
            exact ⟨u5, rfl, l5, F5⟩
