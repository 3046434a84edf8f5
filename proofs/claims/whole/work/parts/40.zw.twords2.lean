theorem sk_idem {B : Nat → Int32} {n p : Nat} (hp : p ≤ n) : sk B n (sk B n p) = sk B n p := wh_idem hp
theorem wv_sk {B : Nat → Int32} {n p : Nat} (hp : p ≤ n) : wvO B n (sk B n p) = wvO B n p := by
  unfold wvO wsE; rw [sk_idem hp]
theorem tIsWord {B : Nat → Int32} {n p : Nat} {u : HS} {a b c d e f W : Int32} (hW : mX9_word a b c d e f = some W) (h : LexR B n p u) (h6 : gI u 9 0 6 = 0) : ∃ u', mX9_isWord u a b c d e f = some (bI (decide (wvO B n p = W)), u') ∧ LexR B n (sk B n p) u' ∧ Fr [] [4] u u' := by
  obtain ⟨u1, e1, l1, f1⟩ := tHere h
  unfold mX9_isWord
  rw [if_pos h6, e1]
  simp only [ob_q, bd_q, hW]
  refine ⟨u1, ?_, l1, f1⟩
  by_cases q : wvO B n p = W
  · rw [if_pos q, decide_eq_true q]; rfl
  · rw [if_neg q, decide_eq_false q]; rfl
theorem tSkipWL {B : Nat → Int32} {n : Nat} {w : HS → Option HS} : ∀ (d p fu : Nat) (u : HS), p + d = n → d < fu → LexR B n p u → ∃ u', mX9_skipWord_L0 w fu u = w u' ∧ LexR B n (wh B isAz n p) u' ∧ Fr [] [4] u u' := by
  intro d
  induction d with
  | zero =>
    intro p fu u h1 h2 h
    obtain ⟨z, rfl⟩ : ∃ z, fu = z + 1 := ⟨fu - 1, by omega⟩
    have e : p = n := by omega
    subst e
    refine ⟨u, ?_, by rw [wh_n]; exact h, Fr.rf⟩
    rw [mX9_skipWord_L0.eq_2, h.2.2.1, rByte h (Nat.le_refl _), if_neg (by omega)]
    simp only [ob_q]
    rw [if_pos (by decide)]
  | succ d ih =>
    intro p fu u h1 h2 h
    obtain ⟨z, rfl⟩ : ∃ z, fu = z + 1 := ⟨fu - 1, by omega⟩
    have hn := h.2.1
    rw [mX9_skipWord_L0.eq_2, h.2.2.1, rByte h (by omega), if_pos (by omega)]
    simp only [ob_q, bd_q, nI_1]
    cases c : isAz (B p) with
    | false =>
      rw [wh_no (by omega) c]
      refine ⟨u, ?_, h, Fr.rf⟩
      unfold isAz at c
      by_cases c1 : B p < 97
      · rw [if_pos c1]
      · rw [if_neg c1]
        by_cases c2 : 122 < B p
        · rw [if_pos c2]
        · rw [decide_eq_false c1, decide_eq_false c2] at c; cases c
    | true =>
      have hc := c
      unfold isAz at hc
      simp only [Bool.and_eq_true, Bool.not_eq_true', decide_eq_false_iff_not] at hc
      rw [if_neg hc.1, if_neg hc.2]
      obtain ⟨u', e, l, f⟩ := ih (p + 1) z _ (by omega) (by omega) (h.mv (show p + 1 ≤ n by omega))
      rw [wh_y (by omega) c]
      exact ⟨u', e, l, (Fr.rf.w9 (by decide)).tr f⟩
theorem tSkipW {B : Nat → Int32} {n p : Nat} {u : HS} (h : LexR B n p u) : ∃ u', mX9_skipWord u = some u' ∧ LexR B n (wh B isAz n p) u' ∧ Fr [] [4] u u' := by
  have h2 := h.2.1
  have h4 := h.2.2.2.1
  unfold mX9_skipWord
  simp only [jp_q]
  exact tSkipWL (n - p) p FU u (by omega) (FU_lt (by omega)) h
