/-- the class's word of the next clause -/
theorem cClause {B : Nat → Int32} {n p i k m : Nat} {u : HS} (hi : strOk i) (hk : k < 1000) (hm : m < 1000) (h : LexC B n p u) : ∃ val u' p', mX5_clauseWord u i (nI k) (nI m) = some (val, u') ∧ FC [3, 4, 5, 6] u u' ∧ LexC B n p' u' ∧ (gI u 5 0 5 ≠ 0 → val = -1 ∧ gI u' 5 0 5 = gI u 5 0 5 ∧ gI u' 5 0 6 = gI u 5 0 6) ∧ (gI u 5 0 5 = 0 → match wdO i B n p with | none => val = -1 ∧ (if sk B n p = n then gI u' 5 0 5 = 0 ∧ gI u' 5 0 6 = gI u 5 0 6 ∧ p' = n else gI u' 5 0 5 = 1 ∧ gI u' 5 0 6 = nI (sk B n p)) | some j => if k < m then val = nI j ∧ gI u' 5 0 5 = 0 ∧ gI u' 5 0 6 = gI u 5 0 6 ∧ p' = wsE B n p ∧ gI u' 5 0 4 = nI (sk B n p) else val = -1 ∧ gI u' 5 0 5 = 3 ∧ gI u' 5 0 6 = nI (sk B n p)) := by
  have hn := h.2.1
  have hl := hi.2
  have hsk := sk_le (B := B) h.2.2.2.1
  obtain ⟨u1, e1, f1, g1⟩ := cTakeW hi h
  have k5 : gI u1 5 0 5 = gI u 5 0 5 := f1.2.1 5 (by decide)
  have k6 : gI u1 5 0 6 = gI u 5 0 6 := f1.2.1 6 (by decide)
  unfold mX5_clauseWord
  rw [e1]
  simp only [ob_q, bd_q, jp_q, k5]
  by_cases c0 : gI u 5 0 5 = 0
  · rw [if_pos c0] at g1
    simp only [if_pos c0]
    cases hs : wdO i B n p with
    | none =>
      rw [hs] at g1
      obtain ⟨l1, -⟩ := g1
      rw [if_neg (by simp)] at l1
      simp only [Option.elim, if_true, l1.2.2.1, l1.1]
      by_cases c1 : sk B n p = n
      · rw [if_pos (show nI (sk B n p) = nI n by rw [c1])]
        rw [c1] at l1
        exact ⟨-1, u1, n, rfl, f1.mo (by decide), l1, fun q => absurd c0 q, fun _ => ⟨rfl, by rw [if_pos c1]; exact ⟨k5.trans c0, k6, rfl⟩⟩⟩
      · rw [if_neg (fun q => c1 ((nI_eq (by omega) (by omega)).mp q))]
        obtain ⟨u3, e3, f3, b3, -⟩ := cBlame (u := u1) 1 (nI (sk B n p))
        obtain ⟨b5, b6⟩ := b3 (k5.trans c0)
        rw [e3]
        simp only [ob_q, b5]
        rw [if_neg (by decide)]
        exact ⟨-1, u3, sk B n p, rfl, (f1.mo (by decide)).tr (f3.mo (by decide)), l1.fc f3 (by decide) (by decide), fun q => absurd c0 q, fun _ => ⟨rfl, by rw [if_neg c1]; exact ⟨b5, b6⟩⟩⟩
    | some j =>
      rw [hs] at g1
      obtain ⟨l1, g4⟩ := g1
      rw [if_pos (show (some j).isSome = true from rfl)] at l1
      have g4' := g4 rfl
      have hj : ¬ (some j).elim (-1) nI = -1 := nI_m1 (by have := wdR_le _ _ _ _ hs; omega)
      simp only [if_neg hj]
      show ∃ val u' p', ((if nI k < nI m then some u1 else (mX5_blame u1 3 (gI u1 5 0 4)).bind fun u112 => some u112 : Option HS).bind fun u106 => if gI u106 5 0 5 = 0 then some (nI j, u106) else some (-1, u106)) = some (val, u') ∧ _
      by_cases c1 : k < m
      · rw [if_pos (nI_lt c1 (by omega))]
        simp only [ob_q, k5, if_pos c0]
        refine ⟨nI j, u1, wsE B n p, rfl, f1.mo (by decide), l1, fun q => absurd c0 q, fun _ => by rw [if_pos c1]; exact ⟨rfl, k5.trans c0, k6, rfl, g4'⟩⟩
      · rw [if_neg (nI_nlt (by omega) (by omega)), g4']
        obtain ⟨u3, e3, f3, b3, -⟩ := cBlame (u := u1) 3 (nI (sk B n p))
        obtain ⟨b5, b6⟩ := b3 (k5.trans c0)
        rw [e3]
        simp only [ob_q, b5]
        rw [if_neg (by decide)]
        exact ⟨-1, u3, wsE B n p, rfl, (f1.mo (by decide)).tr (f3.mo (by decide)), l1.fc f3 (by decide) (by decide), fun q => absurd c0 q, fun _ => by rw [if_neg c1]; exact ⟨rfl, b5, b6⟩⟩
  · rw [if_neg c0] at g1
    simp only [if_neg c0]
    subst g1
    exact ⟨-1, u1, p, rfl, FC.rf, h, fun _ => ⟨rfl, rfl, rfl⟩, fun q => absurd q c0⟩
/-- what the reference needs of a clause's word -/
theorem tNeeds {B : Nat → Int32} {n p k m : Nat} {u : HS} (o : Option Nat) (ho : ∀ j, o = some j → j < 2 ^ 31) (h : LexR B n p u) (h6 : gI u 9 0 6 = 0) (hc : gI u 9 0 9 = nI k) (hk : k < 1000) (hm : m < 1000) : ∃ u', mX9_needs u (o.elim (-1) nI) (nI m) = some u' ∧ Fr [] [6, 7] u u' ∧ LexR B n p u' ∧ (match o with | none => gI u' 9 0 6 = 1 ∧ gI u' 9 0 7 = nI p | some _ => if k = m then gI u' 9 0 6 = 3 ∧ gI u' 9 0 7 = nI p else u' = u) := by
  unfold mX9_needs
  cases o with
  | none =>
    simp only [Option.elim, if_true, h.2.2.1]
    obtain ⟨u3, e3, f3, b3, -⟩ := rWrong (u := u) 1 (nI p)
    rw [e3]
    exact ⟨u3, rfl, f3, h.fr f3 (by simp) (by decide) (by decide), b3 h6⟩
  | some j =>
    have hj : ¬ (some j).elim (-1) nI = -1 := nI_m1 (ho j rfl)
    simp only [if_neg hj, hc, h.2.2.1]
    by_cases c : k = m
    · rw [if_pos (show nI k = nI m by rw [c])]
      obtain ⟨u3, e3, f3, b3, -⟩ := rWrong (u := u) 3 (nI p)
      rw [e3]
      exact ⟨u3, rfl, f3, h.fr f3 (by simp) (by decide) (by decide), by rw [if_pos c]; exact b3 h6⟩
    · rw [if_neg (fun q => c ((nI_eq (by omega) (by omega)).mp q))]
      exact ⟨u, rfl, Fr.rf, h, by rw [if_neg c]⟩
