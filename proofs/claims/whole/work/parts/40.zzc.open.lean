/-- a text begins, the class -/
theorem cOpens {u : HS} {n : Nat} (hn : n ≤ 400) : ∃ u', mX5_open u (nI n) = some u' ∧ FC [1, 2, 3, 4, 5, 6] u u' ∧ LexC (gI u 45 0) n 0 u' ∧ gI u' 5 0 1 = 0 ∧ gI u' 5 0 5 = 0 ∧ gI u' 5 0 6 = -1 := by
  unfold mX5_open
  simp only [bd_q]
  refine ⟨_, rfl, (((((FC.rf.w (by decide)).w (by decide)).w (by decide)).w (by decide)).w (by decide)).w (by decide), ⟨?_, hn, ?_, Nat.zero_le _, fun k _ => ?_⟩, ?_, ?_, ?_⟩
  · rw [gI_k (by decide), gI_k (by decide), gI_k (by decide), gI_k (by decide), gI_k (by decide), gI_eq]
  · rw [gI_k (by decide), gI_k (by decide), gI_k (by decide), gI_eq]; rfl
  · rw [gI_r (by decide), gI_r (by decide), gI_r (by decide), gI_r (by decide), gI_r (by decide), gI_r (by decide)]
  · rw [gI_k (by decide), gI_k (by decide), gI_k (by decide), gI_k (by decide), gI_eq]
  · rw [gI_k (by decide), gI_eq]
  · rw [gI_eq]
/-- a text begins, the reference -/
theorem tOpens {u : HS} {n : Nat} {B : Nat → Int32} (hn : n ≤ 400) (hB : ∀ k, k < n → gI u 60 0 k = B k) : ∃ u', mX9_isRead u (nI n) 0 = some (1, u') ∧ Fr [] [1, 2, 3, 4, 5, 6, 7, 8, 9, 10] u u' ∧ LexR B n (sk B n 0) u' ∧ gI u' 9 0 1 = 0 ∧ gI u' 9 0 3 = -1 ∧ gI u' 9 0 6 = 0 ∧ gI u' 9 0 7 = -1 ∧ gI u' 9 0 8 = 0 ∧ gI u' 9 0 9 = 0 ∧ gI u' 9 0 10 = 0 ∧ gI u' 9 0 5 = 0 := by
  unfold mX9_isRead mX9_begins
  simp only [bd_q, if_true]
  obtain ⟨v, hv⟩ : ∃ v, v = wI (wI (wI (wI (wI (wI (wI (wI (wI (wI u 9 0 1 0) 9 0 3 (-1)) 9 0 2 (nI n)) 9 0 4 0) 9 0 5 0) 9 0 6 0) 9 0 7 (-1)) 9 0 8 0) 9 0 9 0) 9 0 10 0 := ⟨_, rfl⟩
  have G : ∀ k, gI v 9 0 k = if k = 10 then 0 else if k = 9 then 0 else if k = 8 then 0 else if k = 7 then -1 else if k = 6 then 0 else if k = 5 then 0 else if k = 4 then 0 else if k = 2 then nI n else if k = 3 then -1 else if k = 1 then 0 else gI u 9 0 k := fun k => by
    rw [hv]; simp only [gI_wI, true_and]
  have F : Fr [] [1, 2, 3, 4, 5, 6, 7, 8, 9, 10] u v := by
    rw [hv]
    exact (((((((((Fr.rf.w9 (by decide)).w9 (by decide)).w9 (by decide)).w9 (by decide)).w9 (by decide)).w9 (by decide)).w9 (by decide)).w9 (by decide)).w9 (by decide)).w9 (by decide)
  have l : LexR B n 0 v := ⟨by rw [G]; rfl, hn, by rw [G]; rfl, Nat.zero_le _, fun k hk => by rw [F.m1 (show 60 ∉ ([] : List Nat) by simp) (by decide)]; exact hB k hk⟩
  obtain ⟨u', e, l', f⟩ := rSkip l
  rw [← hv, e]
  simp only [ob_q]
  exact ⟨u', rfl, F.tr (f.mo (by simp) (by decide)), l', by rw [f.2.1 1 (by decide), G]; rfl, by rw [f.2.1 3 (by decide), G]; rfl, by rw [f.2.1 6 (by decide), G]; rfl, by rw [f.2.1 7 (by decide), G]; rfl, by rw [f.2.1 8 (by decide), G]; rfl, by rw [f.2.1 9 (by decide), G]; rfl, by rw [f.2.1 10 (by decide), G]; rfl, by rw [f.2.1 5 (by decide), G]; rfl⟩
