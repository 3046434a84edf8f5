/-- a task's text, the reference -/
theorem tTaskL {B : Nat → Int32} {n t : Nat} {w : HS → Option (Int32 × HS)} (ht6 : t < 6) : ∀ (d k fu p : Nat) (u : HS) (T : Nat → Int32), k + d = 16 → d + 1 < fu → LexR B n p u → sk B n p = p → gI u 9 0 6 = 0 → gI u 9 0 9 = nI k → gI u 9 0 15 = nI t → (∀ c, c < 5 → gI u 71 t c = T c) → ∃ u', mX9_task_L122 w fu u = w u' ∧ (∃ p', LexR B n p' u') ∧ Fr [71] [4, 6, 7, 9] u u' ∧ (∀ i, i ≠ t → gI u' 71 i = gI u 71 i) ∧ match tkS B n (d + 1) p k T with | .ok T' => gI u' 9 0 6 = 0 ∧ gI u' 9 0 7 = gI u 9 0 7 ∧ ∀ c, c < 5 → gI u' 71 t c = T' c | .error (κ, q) => gI u' 9 0 6 = κ ∧ gI u' 9 0 7 = nI q := by
  intro d
  induction d with
  | zero =>
    intro k fu p u T h1 h2 h hp h6 hc ht hT
    obtain ⟨z, rfl⟩ : ∃ z, fu = z + 1 + 1 := ⟨fu - 2, by omega⟩
    have hn := h.2.1
    have hpn := h.2.2.2.1
    rw [mX9_task_L122.eq_2, if_pos h6, h.1, h.2.2.1]
    by_cases c : p = n
    · subst c
      rw [if_pos (nI_le (Nat.le_refl _) (by omega))]
      refine ⟨u, rfl, ⟨p, h⟩, Fr.rf, fun _ _ => rfl, ?_⟩
      simp only [tkS, wd17_end, sk_n, if_true]
      exact ⟨h6, trivial, hT⟩
    · rw [if_neg (nI_ge (show p < n by omega) (by omega))]
      obtain ⟨u1, p1, e1, l1, f1, i1, g1⟩ := tTaskC h hp h6 hc (by omega) ht ht6 hT
      obtain ⟨u2, e2, l2, f2⟩ := rSkip l1
      rw [e1]
      simp only [ob_q]
      rw [e2]
      simp only [ob_q]
      have k6 : gI u2 9 0 6 = gI u1 9 0 6 := f2.2.1 6 (by decide)
      have k7 : gI u2 9 0 7 = gI u1 9 0 7 := f2.2.1 7 (by decide)
      have F := f1.tr (f2.mo (L' := [71]) (K' := [4, 6, 7, 9]) (by simp) (by decide))
      have I : ∀ i, i ≠ t → gI u2 71 i = gI u 71 i := fun i hi => by rw [f2.m1 (show 71 ∉ ([] : List Nat) by simp) (by decide)]; exact i1 i hi
      have fin : gI u1 9 0 6 ≠ 0 → mX9_task_L122 w (z + 1) u2 = w u2 := fun q => by rw [mX9_task_L122.eq_2, if_neg (by rw [k6]; exact q)]
      simp only [tkS]
      cases hs : wdO 17 B n p with
      | none =>
        rw [hs] at g1
        have g1' : gI u1 9 0 6 = 1 ∧ gI u1 9 0 7 = nI p := g1
        refine ⟨u2, fin (by rw [g1'.1]; decide), ⟨_, l2⟩, F, I, ?_⟩
        simp only [hp, if_neg c]
        exact ⟨k6.trans g1'.1, k7.trans g1'.2⟩
      | some j =>
        rw [hs] at g1
        simp only [if_neg (show ¬ k < 16 by omega)] at g1 ⊢
        refine ⟨u2, fin (by rw [g1.1]; decide), ⟨_, l2⟩, F, I, ?_⟩
        rw [hp]
        exact ⟨k6.trans g1.1, k7.trans g1.2⟩
  | succ d ih =>
    intro k fu p u T h1 h2 h hp h6 hc ht hT
    obtain ⟨z, rfl⟩ : ∃ z, fu = z + 1 + 1 := ⟨fu - 2, by omega⟩
    have hn := h.2.1
    have hpn := h.2.2.2.1
    rw [mX9_task_L122.eq_2, if_pos h6, h.1, h.2.2.1]
    by_cases c : p = n
    · subst c
      rw [if_pos (nI_le (Nat.le_refl _) (by omega))]
      refine ⟨u, rfl, ⟨p, h⟩, Fr.rf, fun _ _ => rfl, ?_⟩
      unfold tkS
      simp only [wd17_end, sk_n, if_true]
      exact ⟨h6, trivial, hT⟩
    · rw [if_neg (nI_ge (show p < n by omega) (by omega))]
      obtain ⟨u1, p1, e1, l1, f1, i1, g1⟩ := tTaskC h hp h6 hc (by omega) ht ht6 hT
      obtain ⟨u2, e2, l2, f2⟩ := rSkip l1
      rw [e1]
      simp only [ob_q]
      rw [e2]
      simp only [ob_q]
      have k6 : gI u2 9 0 6 = gI u1 9 0 6 := f2.2.1 6 (by decide)
      have k7 : gI u2 9 0 7 = gI u1 9 0 7 := f2.2.1 7 (by decide)
      have F := f1.tr (f2.mo (L' := [71]) (K' := [4, 6, 7, 9]) (by simp) (by decide))
      have I : ∀ i, i ≠ t → gI u2 71 i = gI u 71 i := fun i hi => by rw [f2.m1 (show 71 ∉ ([] : List Nat) by simp) (by decide)]; exact i1 i hi
      have fin : gI u1 9 0 6 ≠ 0 → mX9_task_L122 w (z + 1) u2 = w u2 := fun q => by rw [mX9_task_L122.eq_2, if_neg (by rw [k6]; exact q)]
      unfold tkS
      cases hs : wdO 17 B n p with
      | none =>
        rw [hs] at g1
        have g1' : gI u1 9 0 6 = 1 ∧ gI u1 9 0 7 = nI p := g1
        refine ⟨u2, fin (by rw [g1'.1]; decide), ⟨_, l2⟩, F, I, ?_⟩
        simp only [hp, if_neg c]
        exact ⟨k6.trans g1'.1, k7.trans g1'.2⟩
      | some j =>
        rw [hs] at g1
        simp only [if_pos (show k < 16 by omega)] at g1 ⊢
        cases hN : numO 100000 B n (wsE B n p) 0 (if 3 ≤ j then 9 else 7) (-1) with
        | error eq =>
          obtain ⟨κ, q⟩ := eq
          rw [hN] at g1
          have g1' : gI u1 9 0 6 = κ ∧ gI u1 9 0 7 = nI q := g1
          exact ⟨u2, fin (by rw [g1'.1]; exact numO_err hN), ⟨_, l2⟩, F, I, k6.trans g1'.1, k7.trans g1'.2⟩
        | ok Ve =>
          obtain ⟨V, e⟩ := Ve
          rw [hN] at g1
          cases hS : sgB B n e 59 with
          | false =>
            simp only [hS, Bool.false_eq_true, if_false] at g1 ⊢
            exact ⟨u2, fin (by rw [g1.1]; decide), ⟨_, l2⟩, F, I, k6.trans g1.1, k7.trans g1.2⟩
          | true =>
            simp only [hS, if_true] at g1 ⊢
            obtain ⟨m6, m7, mp, m9, m71⟩ := g1
            subst mp
            have hle := l1.2.2.2.1
            obtain ⟨u', e', l', f', i', m'⟩ := ih (k + 1) (z + 1) (sk B n (sk B n e + 1)) u2 (tkP T j (nI V)) (by omega) (by omega) l2 (sk_idem hle) (k6.trans m6) (by rw [f2.2.1 9 (by decide)]; exact m9) (by rw [F.2.1 15 (by decide)]; exact ht) (fun c hc => by rw [f2.m1 (show 71 ∉ ([] : List Nat) by simp) (by decide)]; exact m71 c hc)
            refine ⟨u', e', l', F.tr f', fun i hi => (i' i hi).trans (I i hi), ?_⟩
            rw [tkS_sk hle] at m'
            rw [← m7, ← k7]
            exact m'
