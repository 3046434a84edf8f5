theorem cLawF {B : Nat → Int32} {n i k fu m : Nat} {u : HS} {e : Int32 × Nat} (hk : k ≤ 17) (h : CPs B n (.error e) u) : ∃ u', mX2_read_L23 (fun u => some u) (fu + 1) (nI k) u = some u' ∧ LWf i m u u' ∧ CPs B n (.error e) u' := by
  have h' := h
  obtain ⟨⟨p, l⟩, h0, h5, h6⟩ := h
  rw [mX2_read_L23.eq_2]
  by_cases c : 16 < k
  · rw [if_pos (show (16 : Int32) < nI k from nI_lt (a := 16) c (by omega))]
    exact ⟨u, rfl, LWf.rf, h'⟩
  · rw [if_neg (show ¬ (16 : Int32) < nI k from nI_nlt (a := 16) (by omega) (by omega))]
    obtain ⟨val, u1, p1, e1, f1, l1, g1, -⟩ := cClause (i := 10) (k := k) (m := 16) ⟨by decide, by decide⟩ (by omega) (by decide) l
    obtain ⟨gv, g5, g6⟩ := g1 (by rw [h5]; exact h0)
    rw [show mX5_clauseWord u 10 (nI k) 16 = _ from e1, gv]
    simp only [ob_q, bd_q, if_true]
    exact ⟨u1, rfl, (f1.lf (fun _ q => q)).lw, ⟨p1, l1⟩, h0, g5.trans h5, g6.trans h6⟩
theorem getD_apR {R : List LRo} {x : LRo} {z : Nat} (h : z < R.length) : (R ++ [x]).getD z (0, 0, 0, none) = R.getD z (0, 0, 0, none) := by
  rw [List.getD_eq_getElem?_getD, List.getD_eq_getElem?_getD, List.getElem?_append_left h]
theorem getD_apN {R : List LRo} {x : LRo} : (R ++ [x]).getD R.length (0, 0, 0, none) = x := by
  rw [List.getD_eq_getElem?_getD, List.getElem?_append_right (Nat.le_refl _), Nat.sub_self]; rfl
theorem cLawL {B : Nat → Int32} {n i : Nat} (hn : n ≤ 400) : ∀ (d k fu p : Nat) (u : HS) (R : List LRo) (c : List Int32), k + d = 17 → d < fu → CLs B n i 0 (.ok (p, c)) u → CRw i R u → R.length = k → R.length ≤ 16 → ∃ u', mX2_read_L23 (fun u => some u) fu (nI k) u = some u' ∧ LWf i 0 u u' ∧ match lwS B n d p R c with | .ok (R', c') => gI u' 5 0 5 = 0 ∧ gI u' 5 0 6 = -1 ∧ CRw i R' u' ∧ ∀ j, j < c'.length → gI u' 32 i j = enc (c'.getD j 0) | .error (κ, q) => κ ≠ 0 ∧ gI u' 5 0 5 = κ ∧ gI u' 5 0 6 = nI q := by
  intro d
  induction d with
  | zero => intro k fu p u R c h1 _ _ _ h2 h3; omega
  | succ d ih =>
    intro k fu p u R c h1 h2 h hR hRk hR16
    obtain ⟨z, rfl⟩ : ∃ z, fu = z + 1 := ⟨fu - 1, by omega⟩
    obtain ⟨⟨p', l, hs⟩, h5, h6⟩ := h.2.1
    have hs : sk B n p' = p := hs
    have hp' := l.2.2.2.1
    have hsk := sk_of hp' hs
    have hcg : sk B n p' = sk B n p := by rw [hs]; exact hsk.symm
    have hpn : p ≤ n := by rw [← hs]; exact (sk_le hp').2
    rw [mX2_read_L23.eq_2, if_neg (show ¬ (16 : Int32) < nI k from nI_nlt (a := 16) (by omega) (by omega))]
    obtain ⟨val, u1, p1, e1, f1, l1, -, g1⟩ := cClause (i := 10) (k := k) (m := 16) ⟨by decide, by decide⟩ (by omega) (by decide) l
    have g1' := g1 h5
    rw [wdO_cg hcg, wsE_cg hcg, hs] at g1'
    rw [show mX5_clauseWord u 10 (nI k) 16 = _ from e1]
    simp only [ob_q, bd_q]
    have F1 : LWf i 0 u u1 := (f1.lf (fun _ q => q)).lw
    have R1 : CRw i R u1 := by
      unfold CRw
      rw [f1.1 1 (by decide), f1.1 33 (by decide), f1.1 34 (by decide), f1.1 35 (by decide), f1.1 36 (by decide)]
      exact hR
    unfold lwS
    cases hw : wdO 10 B n p with
    | none =>
      rw [hw] at g1'
      obtain ⟨gv, g2⟩ := g1'
      rw [gv, if_pos rfl]
      refine ⟨u1, rfl, F1, ?_⟩
      by_cases c1 : p = n
      · rw [if_pos c1] at g2
        simp only [if_pos c1]
        refine ⟨g2.1, g2.2.1.trans h6, R1, fun j hj => ?_⟩
        rw [f1.1 32 (by decide)]
        exact h.2.2.1.2 j hj
      · rw [if_neg c1] at g2
        simp only [if_neg c1]
        exact ⟨by decide, g2.1, g2.2⟩
    | some j =>
      rw [hw] at g1'
      have hj4 := wd10_lt hw
      have w1 := wdO_st hw hpn wr10
      rw [hsk] at w1
      simp only at g1' ⊢
      by_cases c1 : R.length < 16
      · rw [if_pos (show k < 16 by omega)] at g1'
        simp only [if_pos c1]
        obtain ⟨gv, g5, g6, gp, g4⟩ := g1'
        subst gp
        rw [gv, if_neg (nI_m1 (by omega))]
        have l2 := sk_le (B := B) l1.2.2.2.1
        have C1 : CPs B n (.ok (sk B n (wsE B n p))) u1 := ⟨⟨wsE B n p, l1, rfl⟩, g5, g6.trans h6⟩
        have h1c : CLs B n i 1 (.ok (sk B n (wsE B n p), c)) u1 := h.adv (q := sk B n (wsE B n p)) f1 C1 (by omega)
        obtain ⟨u2, e2, f2, gn, m2⟩ := cLawC (j := j) hn (show k < 16 by omega) h1c.wk
        rw [e2]
        simp only [ob_q, nI_1]
        have F2 := F1.tr (f2.mo (Nat.zero_le k))
        cases hS : lcS B n (sk B n (wsE B n p)) c with
        | error e =>
          rw [hS] at m2
          obtain ⟨y, u3, e3, f3, c3⟩ := cSemi (.error e) m2.2.1
          rw [e3]
          simp only [ob_q]
          obtain ⟨z', rfl⟩ : ∃ z', z = z' + 1 := ⟨z - 1, by omega⟩
          obtain ⟨u', e4, f4, c4⟩ := cLawF (i := i) (m := 0) (k := k + 1) (fu := z') (by omega) c3
          exact ⟨u', e4, (F2.tr ((f3.lf (fun _ q => q)).lw)).tr f4, c4.2⟩
        | ok q =>
          rw [hS] at m2
          obtain ⟨c2, r33, r34, r35, r36⟩ := m2
          obtain ⟨y, u3, e3, c3, f3, -⟩ := cLGS (j := 0) (ch := 59) rfl ⟨by decide, by decide⟩ c2
          rw [e3]
          simp only [ob_q]
          cases hG : sgB B n q.1 59 with
          | false =>
            simp only [Bool.false_eq_true, if_false]
            rw [show lG B n (.ok (q.1, q.2.2.2)) 59 = .error (1, q.1) from if_neg (by rw [hG]; decide)] at c3
            obtain ⟨z', rfl⟩ : ∃ z', z = z' + 1 := ⟨z - 1, by omega⟩
            obtain ⟨u', e4, f4, c4⟩ := cLawF (i := i) (m := 0) (k := k + 1) (fu := z') (by omega) c3.2.1
            exact ⟨u', e4, (F2.tr f3.lw).tr f4, c4.2⟩
          | true =>
            simp only [if_true]
            rw [show lG B n (.ok (q.1, q.2.2.2)) 59 = .ok (sk B n (q.1 + 1), q.2.2.2) from if_pos hG] at c3
            have R3 : CRw i (R ++ [(j, c.length, q.2.1, q.2.2.1)]) u3 := by
              refine ⟨?_, fun y hy => ?_⟩
              · rw [f3.2.2.1 2 (by decide), gn, List.length_append, hRk]; rfl
              · rw [List.length_append] at hy
                have hy : y < R.length + 1 := hy
                rw [f3.1 33 (by decide) (by decide) (by decide), f3.1 34 (by decide) (by decide) (by decide), f3.1 35 (by decide) (by decide) (by decide), f3.1 36 (by decide) (by decide) (by decide)]
                by_cases e : y = R.length
                · subst e
                  rw [getD_apN]
                  rw [hRk]
                  exact ⟨r33, r34, r35, r36⟩
                · rw [getD_apR (show y < R.length by omega), f2.2.2.1 33 y (by decide) (by decide) (by omega), f2.2.2.1 34 y (by decide) (by decide) (by omega), f2.2.2.1 35 y (by decide) (by decide) (by omega), f2.2.2.1 36 y (by decide) (by decide) (by omega)]
                  exact R1.2 y (by omega)
            obtain ⟨u', e4, f4, m4⟩ := ih (k + 1) z _ u3 _ q.2.2.2 (by omega) (by omega) c3 R3 (by rw [List.length_append, hRk]; rfl) (by rw [List.length_append]; show R.length + 1 ≤ 16; omega)
            exact ⟨u', e4, (F2.tr f3.lw).tr f4, m4⟩
      · rw [if_neg (show ¬ k < 16 by omega)] at g1'
        simp only [if_neg c1]
        rw [g1'.1, if_pos rfl]
        exact ⟨u1, rfl, F1, by decide, g1'.2⟩
theorem cLawR {B : Nat → Int32} {n i : Nat} {u : HS} (h : LexC B n 0 u) (h5 : gI u 5 0 5 = 0) (h6 : gI u 5 0 6 = -1) : ∃ u', mX2_read u i = some u' ∧ ((∀ r, r ≠ 5 → r ≠ 1 → (r < 32 ∨ 36 < r) → gI u' r = gI u r) ∧ (∀ r j, (r = 1 ∨ (32 ≤ r ∧ r ≤ 36)) → j ≠ i → gI u' r j = gI u r j) ∧ (∀ z, z ∉ [3, 4, 5, 6] → gI u' 5 0 z = gI u 5 0 z) ∧ ∀ k, k ≠ 0 → gR u' k = gR u k) ∧ match lwS B n 17 (sk B n 0) [] [] with | .ok (R', c') => gI u' 5 0 5 = 0 ∧ gI u' 5 0 6 = -1 ∧ CRw i R' u' ∧ ∀ j, j < c'.length → gI u' 32 i j = enc (c'.getD j 0) | .error (κ, q) => κ ≠ 0 ∧ gI u' 5 0 5 = κ ∧ gI u' 5 0 6 = nI q := by
  have hn := h.2.1
  unfold mX2_read
  simp only [bd_q, jp_q]
  have g0 : ∀ (σ : HS) (r i k : Nat) (v : Int32), gR (wI σ r i k v) = gR σ := fun _ _ _ _ _ => rfl
  have g1 : gR (wR u 0 i) 0 = i := by rw [gR_wR, if_pos rfl]
  simp only [g0, g1]
  obtain ⟨v, hv⟩ : ∃ v, v = wI (wI (wR u 0 i) 1 i 1 0) 1 i 2 0 := ⟨_, rfl⟩
  rw [← hv]
  have V : ∀ r, r ≠ 1 → gI v r = gI u r := fun r hr => by rw [hv, gI_r hr, gI_r hr, gI_wR]
  have V1 : ∀ j, j ≠ i → gI v 1 j = gI u 1 j := fun j hj => by rw [hv, gI_ri hj, gI_ri hj, gI_wR]
  have hR : ∀ k, k ≠ 0 → gR v k = gR u k := fun k hk => by rw [hv, g0, g0, gR_wR, if_neg hk]
  have hR0 : gR v 0 = i := by rw [hv, g0, g0, g1]
  have l : LexC B n 0 v := h.cg (V 5 (by decide)) (V 45 (by decide))
  have hc : CLs B n i 0 (.ok (sk B n 0, [])) v := ⟨hR0, ⟨⟨0, l, rfl⟩, by rw [V 5 (by decide)]; exact h5, by rw [V 5 (by decide)]; exact h6⟩, ⟨by rw [hv, gI_k (by decide), gI_eq]; rfl, fun j hj => absurd hj (Nat.not_lt_zero j)⟩, fun pc hpc => by injection hpc with hpc; rw [← hpc]; exact Nat.zero_le _⟩
  have hr : CRw i [] v := ⟨by rw [hv, gI_eq]; rfl, fun z hz => absurd hz (Nat.not_lt_zero z)⟩
  obtain ⟨u', e, ⟨f1, f2, f3, f4, f5⟩, m⟩ := cLawL hn 17 0 FU (sk B n 0) v [] [] rfl (FU_lt (by decide)) hc hr rfl (by decide)
  refine ⟨u', e, ⟨fun r a b c => by rw [f1 r a b c, V r b], fun r j a b => ?_, fun z hz => by rw [f4 z hz, V 5 (by decide)], fun k hk => by rw [f5, hR k hk]⟩, m⟩
  rw [f2 r j a b]
  by_cases e1 : r = 1
  · rw [e1]; exact V1 j b
  · rw [V r e1]
