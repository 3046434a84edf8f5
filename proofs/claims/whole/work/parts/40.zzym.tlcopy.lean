/-! the reference keeps the law -/
theorem tKod {l : Nat} {c : List Int32} (hl : l < 4) (hc : c.length ≤ 400) (u : HS) (h16 : gI u 9 0 16 = nI l) (hR : RD (some c) u) : ∃ u', (∀ w, mX9_law_L109 w FU 0 u = w u') ∧ Fr [73] [] u u' ∧ (∀ i, i ≠ l → gI u' 73 i = gI u 73 i) ∧ ∀ p, p < c.length → gI u' 73 l p = c.getD p 0 := by
  have g8 : gI u 9 0 8 = nI c.length := hR.1
  have g61 : ∀ j, j < c.length → gI u 61 0 j = c.getD j 0 := hR.2
  refine loopR (fun fu (a : HS) y => fun w => mX9_law_L109 w fu y a) c.length 0 (fun m a => Fr [73] [] u a ∧ (∀ i, i ≠ l → gI a 73 i = gI u 73 i) ∧ ∀ p, p < m → gI a 73 l p = c.getD p 0) (fun o => ∃ u', (∀ w, o w = w u') ∧ Fr [73] [] u u' ∧ (∀ i, i ≠ l → gI u' 73 i = gI u 73 i) ∧ ∀ p, p < c.length → gI u' 73 l p = c.getD p 0) ?_ ?_ c.length 0 u FU (Nat.le_refl _) (by omega) (FU_lt (by omega)) ⟨Fr.rf, fun _ _ => rfl, fun p hp => absurd hp (Nat.not_lt_zero p)⟩
  · intro fu a m _ hm ⟨a1, a2, a3⟩ ih
    have e : ∀ w, mX9_law_L109 w (fu + 1) (nI m) a = mX9_law_L109 w fu (nI (m + 1)) (wI a 73 l m (c.getD m 0)) := fun w => by
      rw [mX9_law_L109.eq_2, a1.2.1 8 (by simp), g8, if_neg (nI_ge hm (by omega)), a1.2.1 16 (by simp), h16, ck_nI hl (by decide), ck_nI (show m < 500 by omega) (by decide)]
      simp only [ob_q, bd_q, nI_1, a1.1 61 (by decide) (by decide), g61 m hm]
    obtain ⟨u', q1, q2⟩ := ih (wI a 73 l m (c.getD m 0)) ⟨a1.sI (by decide) (by decide), fun i hi => by rw [gI_ri hi, a2 i hi], fun p hp => by
      by_cases e : p = m
      · rw [e, gI_eq]
      · rw [gI_k e]; exact a3 p (by omega)⟩
    exact ⟨u', fun w => (e w).trans (q1 w), q2⟩
  · intro fu a ⟨a1, a2, a3⟩
    refine ⟨a, fun w => ?_, a1, a2, a3⟩
    show mX9_law_L109 w (fu + 1) (nI c.length) a = w a
    rw [mX9_law_L109.eq_2, a1.2.1 8 (by simp), g8, if_pos (nI_le (Nat.le_refl _) (by omega))]
theorem tLRow {l k : Nat} (hl : l < 4) (hk : k < 16) (u : HS) (h16 : gI u 9 0 16 = nI l) : ∃ u', (∀ w, mX9_law_L152 (nI k) w FU 0 u = w u') ∧ Fr [75] [] u u' ∧ (∀ i, i ≠ 16 * l + k → gI u' 75 i = gI u 75 i) ∧ ∀ j, j < 4 → gI u' 75 (16 * l + k) j = gI u 63 k j := by
  refine loopR (fun fu (a : HS) y => fun w => mX9_law_L152 (nI k) w fu y a) 4 0 (fun m a => Fr [75] [] u a ∧ (∀ i, i ≠ 16 * l + k → gI a 75 i = gI u 75 i) ∧ ∀ j, j < m → gI a 75 (16 * l + k) j = gI u 63 k j) (fun o => ∃ u', (∀ w, o w = w u') ∧ Fr [75] [] u u' ∧ (∀ i, i ≠ 16 * l + k → gI u' 75 i = gI u 75 i) ∧ ∀ j, j < 4 → gI u' 75 (16 * l + k) j = gI u 63 k j) ?_ ?_ 4 0 u FU (Nat.le_refl _) rfl (FU_lt (by decide)) ⟨Fr.rf, fun _ _ => rfl, fun p hp => absurd hp (Nat.not_lt_zero p)⟩
  · intro fu a m _ hm ⟨a1, a2, a3⟩ ih
    have e : ∀ w, mX9_law_L152 (nI k) w (fu + 1) (nI m) a = mX9_law_L152 (nI k) w fu (nI (m + 1)) (wI a 75 (16 * l + k) m (gI u 63 k m)) := fun w => by
      rw [mX9_law_L152.eq_2, if_neg (show ¬ (4 : Int32) ≤ nI m from nI_ge (b := 4) hm (by decide)), a1.2.1 16 (by simp), h16, show (16 : Int32) * nI l = nI (16 * l) from by rw [Int32.mul_comm, show (nI l * 16 : Int32) = nI (l * 16) from pk_mul l 16, Nat.mul_comm], nI_add, ck_nI (show 16 * l + k < 64 by omega) (by decide), ck_nI (show k < 24 by omega) (by decide), ck_nI (show m < 8 by omega) (by decide), ck_nI (show m < 4 by omega) (by decide)]
      simp only [ob_q, bd_q, nI_1, a1.1 63 (by decide) (by decide)]
    obtain ⟨u', q1, q2⟩ := ih (wI a 75 (16 * l + k) m (gI u 63 k m)) ⟨a1.sI (by decide) (by decide), fun i hi => by rw [gI_ri hi, a2 i hi], fun p hp => by
      by_cases e : p = m
      · rw [e, gI_eq]
      · rw [gI_k e]; exact a3 p (by omega)⟩
    exact ⟨u', fun w => (e w).trans (q1 w), q2⟩
  · intro fu a ⟨a1, a2, a3⟩
    refine ⟨a, fun w => ?_, a1, a2, a3⟩
    show mX9_law_L152 (nI k) w (fu + 1) (nI 4) a = w a
    rw [mX9_law_L152.eq_2, if_pos (show (4 : Int32) ≤ nI 4 by decide)]
theorem tLRows {l : Nat} {R : List LRo} (hl : l < 4) (hR16 : R.length ≤ 16) (u : HS) (h16 : gI u 9 0 16 = nI l) (hR : RRw R u) : ∃ u', (∀ w, mX9_law_L142 w FU 0 u = w u') ∧ Fr [75] [] u u' ∧ (∀ i, i < 16 * l ∨ 16 * l + 16 ≤ i → gI u' 75 i = gI u 75 i) ∧ ∀ k, k < R.length → ∀ j, j < 4 → gI u' 75 (16 * l + k) j = rJ (R.getD k (0, 0, 0, none)) j := by
  obtain ⟨g9, g63⟩ := hR
  refine loopR (fun fu (a : HS) y => fun w => mX9_law_L142 w fu y a) R.length 0 (fun m a => Fr [75] [] u a ∧ (∀ i, i < 16 * l ∨ 16 * l + 16 ≤ i → gI a 75 i = gI u 75 i) ∧ ∀ k, k < m → ∀ j, j < 4 → gI a 75 (16 * l + k) j = rJ (R.getD k (0, 0, 0, none)) j) (fun o => ∃ u', (∀ w, o w = w u') ∧ Fr [75] [] u u' ∧ (∀ i, i < 16 * l ∨ 16 * l + 16 ≤ i → gI u' 75 i = gI u 75 i) ∧ ∀ k, k < R.length → ∀ j, j < 4 → gI u' 75 (16 * l + k) j = rJ (R.getD k (0, 0, 0, none)) j) ?_ ?_ R.length 0 u FU (Nat.le_refl _) (by omega) (FU_lt (by omega)) ⟨Fr.rf, fun _ _ => rfl, fun p hp => absurd hp (Nat.not_lt_zero p)⟩
  · intro fu a m _ hm ⟨a1, a2, a3⟩ ih
    obtain ⟨b, eb, b1, b2, b3⟩ := tLRow hl (show m < 16 by omega) a (by rw [a1.2.1 16 (by simp)]; exact h16)
    have e : ∀ w, mX9_law_L142 w (fu + 1) (nI m) a = mX9_law_L142 w fu (nI (m + 1)) b := fun w => by
      rw [mX9_law_L142.eq_2, a1.2.1 9 (by simp), g9, if_neg (nI_ge hm (by omega))]
      simp only [jp_q, bd_q, nI_1]
      rw [eb]
    obtain ⟨u', q1, q2⟩ := ih b ⟨a1.tr b1, fun i hi => by rw [b2 i (by omega), a2 i hi], fun k hk j hj => by
      by_cases e : k = m
      · rw [e, b3 j hj, a1.1 63 (by decide) (by decide)]; exact g63 m hm j hj
      · rw [b2 _ (by omega)]; exact a3 k (by omega) j hj⟩
    exact ⟨u', fun w => (e w).trans (q1 w), q2⟩
  · intro fu a ⟨a1, a2, a3⟩
    refine ⟨a, fun w => ?_, a1, a2, a3⟩
    show mX9_law_L142 w (fu + 1) (nI R.length) a = w a
    rw [mX9_law_L142.eq_2, a1.2.1 9 (by simp), g9, if_pos (nI_le (Nat.le_refl _) (by omega))]
