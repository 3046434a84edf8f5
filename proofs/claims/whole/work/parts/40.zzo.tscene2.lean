/-- one clause of a scene, the reference -/
theorem tSceneC {B : Nat → Int32} {n p k T : Nat} {u : HS} (h : LexR B n p u) (hp : sk B n p = p) (h6 : gI u 9 0 6 = 0) (h7 : gI u 9 0 7 = -1) (hc : gI u 9 0 9 = nI k) (hk : k ≤ 24) (h10 : gI u 9 0 10 = nI T) (hT : T ≤ 8) : ∃ u', mX9_sceneClause u = some u' ∧ Fr [63] [4, 6, 7, 9, 10] u u' ∧ (∀ i, i ≠ k → gI u' 63 i = gI u 63 i) ∧ (match wdO 16 B n p with
    | none => RPs B n (.error (1, p)) u'
    | some j => if k < 24 then (if j = 0 ∧ T = 8 then RPs B n (.error (3, p)) u' else match scN B n (sk B n (wsE B n p)) T j with
      | .error e => RPs B n (.error e) u'
      | .ok (a, q) => RPs B n (stG B n (.ok q) 59) u' ∧ gI u' 9 0 9 = nI (k + 1) ∧ gI u' 9 0 10 = nI (if j = 0 then T + 1 else T) ∧ gI u' 63 k 0 = nI j ∧ (∀ x, x < a.length → gI u' 63 k (x + 1) = nI (a.getD x 0)) ∧ ∀ x, a.length < x → gI u' 63 k x = gI u 63 k x) else RPs B n (.error (3, p)) u') := by
  obtain ⟨u1, e1, l1, f1⟩ := tSceneHere h h6
  rw [hp] at l1
  have k6 : gI u1 9 0 6 = 0 := (f1.2.1 6 (by decide)).trans h6
  have k7 : gI u1 9 0 7 = -1 := (f1.2.1 7 (by decide)).trans h7
  have k9 : gI u1 9 0 9 = nI k := (f1.2.1 9 (by decide)).trans hc
  have k10 : gI u1 9 0 10 = nI T := (f1.2.1 10 (by decide)).trans h10
  have M : ∀ {L : List Nat} {v w : HS}, Fr [] L v w → (∀ x, x ∈ L → x ∈ [4, 6, 7]) → Fr [63] [4, 6, 7, 9, 10] v w := fun hv hL => hv.mo (by simp) (fun x hx => by have := hL x hx; simp at this ⊢; omega)
  have F1 : Fr [63] [4, 6, 7, 9, 10] u u1 := M f1 (by decide)
  have R1 : gI u1 63 = gI u 63 := f1.1 63 (by simp) (by decide)
  unfold mX9_sceneClause
  rw [e1]
  simp only [ob_q, bd_q]
  cases hs : wdO 16 B n p with
  | none =>
    obtain ⟨u2, e2, f2, l2, g2⟩ := tNeeds (m := 24) none (fun j hj => by cases hj) l1 k6 k9 (by omega) (by decide)
    have g2' : gI u2 9 0 6 = 1 ∧ gI u2 9 0 7 = nI p := g2
    rw [show mX9_needs u1 ((none : Option Nat).elim (-1) nI) 24 = some u2 from e2]
    simp only [ob_q]
    have n6 : ¬ gI u2 9 0 6 = 0 := by rw [g2'.1]; decide
    rw [if_neg n6]
    simp only [ob_q]
    rw [if_neg n6]
    exact ⟨u2, rfl, F1.tr (M f2 (by decide)), fun i _ => by rw [f2.1 63 (by simp) (by decide), R1], ⟨p, l2.lx⟩, show (1 : Int32) ≠ 0 by decide, g2'.1, g2'.2⟩
  | some j =>
    have hj5 := wd16_lt hs
    obtain ⟨u2, e2, f2, l2, g2⟩ := tNeeds (m := 24) (some j) (fun j' hj => by injection hj with hj; omega) l1 k6 k9 (by omega) (by decide)
    have g2' : if k = 24 then gI u2 9 0 6 = 3 ∧ gI u2 9 0 7 = nI p else u2 = u1 := g2
    rw [show mX9_needs u1 ((some j).elim (-1) nI) 24 = some u2 from e2]
    simp only [ob_q]
    by_cases c : k = 24
    · rw [if_pos c] at g2'
      have n6 : ¬ gI u2 9 0 6 = 0 := by rw [g2'.1]; decide
      rw [if_neg n6]
      simp only [ob_q]
      rw [if_neg n6]
      simp only [if_neg (show ¬ k < 24 by omega)]
      exact ⟨u2, rfl, F1.tr (M f2 (by decide)), fun i _ => by rw [f2.1 63 (by simp) (by decide), R1], ⟨p, l2.lx⟩, show (3 : Int32) ≠ 0 by decide, g2'.1, g2'.2⟩
    · rw [if_neg c] at g2'
      subst g2'
      rw [if_pos k6]
      simp only [if_pos (show k < 24 by omega)]
      have ev : (some j).elim (-1) nI = nI j := rfl
      rw [ev]
      by_cases c8 : j = 0 ∧ T = 8
      · simp only [if_pos c8]
        obtain ⟨u3, e3, f3, b3, -⟩ := rWrong (u := u2) 3 (nI p)
        obtain ⟨b6, b7⟩ := b3 k6
        rw [if_pos (show nI j = 0 by rw [c8.1]; rfl), if_pos (show gI u2 9 0 10 = 8 by rw [k10, c8.2]; rfl), l1.2.2.1, e3]
        simp only [ob_q]
        rw [if_neg (by rw [b6]; decide)]
        exact ⟨u3, rfl, F1.tr (M f3 (by decide)), fun i _ => by rw [f3.1 63 (by simp) (by decide), R1], ⟨p, (l1.fr f3 (by simp) (by decide) (by decide)).lx⟩, show (3 : Int32) ≠ 0 by decide, b6, b7⟩
      · simp only [if_neg c8]
        have hif : (if nI j = 0 then (if gI u2 9 0 10 = 8 then (mX9_wrongAt u2 3 (gI u2 9 0 4)).bind fun u179 => some u179 else some u2) else some u2 : Option HS) = some u2 := by
          by_cases e : nI j = 0
          · rw [if_pos e, if_neg]
            intro q
            rw [k10] at q
            exact c8 ⟨(nI_eq (b := 0) (by omega) (by decide)).mp e, (nI_eq (b := 8) (by omega) (by decide)).mp q⟩
          · rw [if_neg e]
        rw [hif]
        simp only [ob_q]
        rw [if_pos k6]
        obtain ⟨u3, e3, l3, f3⟩ := tSkipW l1
        rw [show wh B isAz n p = wsE B n p from by unfold wsE; rw [hp]] at l3
        have R3 : gI u3 63 = gI u 63 := (f3.1 63 (by simp) (by decide)).trans R1
        rw [e3]
        simp only [ob_q]
        rw [show gI u3 9 0 9 = nI k from (f3.2.1 9 (by decide)).trans k9, ck_nI (show k < 24 by omega) (by decide)]
        simp only [ob_q, show ck 8 0 = some 0 from by decide]
        have P3 : RPs B n (.ok (sk B n (wsE B n p))) (wI u3 63 k 0 (nI j)) := RPs.w (s := .ok (sk B n (wsE B n p))) ⟨⟨wsE B n p, l3, rfl⟩, (f3.2.1 6 (by decide)).trans k6, (f3.2.1 7 (by decide)).trans k7⟩ (by decide) (by decide)
        have T3 : gI (wI u3 63 k 0 (nI j)) 9 0 10 = nI T := by rw [gI_r (by decide), f3.2.1 10 (by decide), k10]
        obtain ⟨u4, e4, m, hm8, hm⟩ := tNums (k := k) hj5 hT P3 T3
        simp only [bd_q] at e4
        rw [e4]
        simp only [ob_q]
        obtain ⟨c4, f4, i4, x4, v4⟩ := hm
        have F4 : Fr [63] [4, 6, 7, 9, 10] u u4 := (((F1.tr (M f3 (by decide))).sI (by decide) (by decide)).tr (f4.mo (fun _ q => q) (by decide)))
        have I4 : ∀ i, i ≠ k → gI u4 63 i = gI u 63 i := fun i hi => by rw [i4 i hi, gI_ri hi, R3]
        have hq0 : (if nI j = 0 then some 1 else some 0 : Option Int32) = some (nI (if j = 0 then 1 else 0)) := by
          by_cases e : j = 0
          · rw [if_pos (by rw [e]; rfl), if_pos e]; rfl
          · rw [if_neg (show ¬ nI j = 0 from fun q => e ((nI_eq (b := 0) (by omega) (by decide)).mp q)), if_neg e]; rfl
        rw [hq0]
        simp only [ob_q]
        obtain ⟨u5, e5, f5, c5⟩ := tSignS (psP (scN B n (sk B n (wsE B n p)) T j)) (ch := 59) (by decide) c4
        rw [e5]
        simp only [ob_q]
        have F5 : Fr [63] [4, 6, 7, 9, 10] u u5 := F4.tr (M f5 (by decide))
        have n10 : gI u5 9 0 10 = nI T := by rw [f5.2.1 10 (by decide), f4.2.1 10 (by decide), T3]
        have n9 : gI u5 9 0 9 = nI k := by rw [f5.2.1 9 (by decide), f4.2.1 9 (by decide), gI_r (by decide), f3.2.1 9 (by decide), k9]
        rw [n10, nI_add, gI_k (show 9 ≠ 10 by decide), n9, nI_1]
        refine ⟨_, rfl, (F5.w9 (by decide)).w9 (by decide), fun i hi => by rw [gI_r (by decide), gI_r (by decide), f5.1 63 (by simp) (by decide)]; exact I4 i hi, ?_⟩
        have c6 : ∀ {s : PE Nat}, RPs B n s u5 → RPs B n s (wI (wI u5 9 0 10 (nI (T + if j = 0 then 1 else 0))) 9 0 9 (nI (k + 1))) := fun hs => (hs.w9 (by decide)).w9 (by decide)
        cases hN : scN B n (sk B n (wsE B n p)) T j with
        | error e => rw [hN] at c5; exact c6 c5
        | ok aq =>
          obtain ⟨a, q⟩ := aq
          rw [hN] at c5
          obtain ⟨la, va⟩ := v4 a q hN
          have R5 : gI (wI (wI u5 9 0 10 (nI (T + if j = 0 then 1 else 0))) 9 0 9 (nI (k + 1))) 63 = gI u4 63 := by rw [gI_r (by decide), gI_r (by decide), f5.1 63 (by simp) (by decide)]
          refine ⟨c6 c5, gI_eq, ?_, ?_, fun x hx => ?_, fun x hx => ?_⟩
          · rw [gI_k (by decide), gI_eq]; congr 1; split <;> omega
          · rw [R5, x4 0 (Or.inl rfl), gI_eq]
          · rw [R5]; exact va x (by omega)
          · rw [R5, x4 x (Or.inr (by omega)), gI_k (by omega), R3]
