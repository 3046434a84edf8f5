theorem wsE_sk {B : Nat → Int32} {n p : Nat} (hp : p ≤ n) : wsE B n (sk B n p) = wsE B n p := by unfold wsE; rw [sk_idem hp]
theorem wdO_sk {i : Nat} {B : Nat → Int32} {n p : Nat} (hp : p ≤ n) : wdO i B n (sk B n p) = wdO i B n p := by unfold wdO; rw [sk_idem hp, wsE_sk hp]
theorem tkS_sk {B : Nat → Int32} {n p : Nat} (hp : p ≤ n) (d k : Nat) (T : Nat → Int32) : tkS B n d (sk B n p) k T = tkS B n d p k T := by
  cases d with
  | zero => simp only [tkS]
  | succ d => simp only [tkS, wdO_sk hp, sk_idem hp, wsE_sk hp]
theorem sk_n {B : Nat → Int32} {n : Nat} : sk B n n = n := wh_n
theorem wd17_end {B : Nat → Int32} {n : Nat} : wdO 17 B n n = none := by
  have e : wsE B n n - sk B n n = 0 := by unfold wsE; rw [sk_n, wh_n, Nat.sub_self]
  have f : ∀ w : List Int32, w.length ≠ 0 → eqW B (sk B n n) 0 w = false := fun w hw => by unfold eqW; rw [decide_eq_false hw, Bool.false_and]
  rw [wd17, e, f _ (by decide), f _ (by decide), f _ (by decide), f _ (by decide), f _ (by decide)]
  rfl
/-- one clause of a task, the reference -/
theorem tTaskC {B : Nat → Int32} {n p k t : Nat} {u : HS} {T : Nat → Int32} (h : LexR B n p u) (hp : sk B n p = p) (h6 : gI u 9 0 6 = 0) (hc : gI u 9 0 9 = nI k) (hk : k ≤ 16) (ht : gI u 9 0 15 = nI t) (ht6 : t < 6) (hT : ∀ c, c < 5 → gI u 71 t c = T c) : ∃ u' p', mX9_taskClause u = some u' ∧ LexR B n p' u' ∧ Fr [71] [4, 6, 7, 9] u u' ∧ (∀ i, i ≠ t → gI u' 71 i = gI u 71 i) ∧ (match wdO 17 B n p with | none => gI u' 9 0 6 = 1 ∧ gI u' 9 0 7 = nI p | some j => if k < 16 then (match numO 100000 B n (wsE B n p) 0 (if 3 ≤ j then 9 else 7) (-1) with | .error (κ, q) => gI u' 9 0 6 = κ ∧ gI u' 9 0 7 = nI q | .ok (V, e) => if sgB B n e 59 = true then gI u' 9 0 6 = 0 ∧ gI u' 9 0 7 = gI u 9 0 7 ∧ p' = sk B n e + 1 ∧ gI u' 9 0 9 = nI (k + 1) ∧ ∀ c, c < 5 → gI u' 71 t c = tkP T j (nI V) c else gI u' 9 0 6 = 1 ∧ gI u' 9 0 7 = nI (sk B n e)) else gI u' 9 0 6 = 3 ∧ gI u' 9 0 7 = nI p) := by
  obtain ⟨u1, e1, l1, f1⟩ := tTaskHere h h6
  rw [hp] at l1
  have k6 : gI u1 9 0 6 = 0 := (f1.2.1 6 (by decide)).trans h6
  have k7 : gI u1 9 0 7 = gI u 9 0 7 := f1.2.1 7 (by decide)
  have k9 : gI u1 9 0 9 = nI k := (f1.2.1 9 (by decide)).trans hc
  have s71 : ∀ v, Fr [] [4, 6, 7, 9] u v → ∀ i, i ≠ t → gI v 71 i = gI u 71 i := fun v hv i _ => by rw [hv.m1 (show 71 ∉ ([] : List Nat) by simp) (by decide)]
  have hm : ∀ v w, Fr [] [4] v w → Fr [] [4, 6, 7, 9] v w := fun v w hv => hv.mo (by simp) (by decide)
  have hm2 : ∀ v w, Fr [] [6, 7] v w → Fr [] [4, 6, 7, 9] v w := fun v w hv => hv.mo (by simp) (by decide)
  have hm3 : ∀ v w, Fr [] [4, 6, 7] v w → Fr [] [4, 6, 7, 9] v w := fun v w hv => hv.mo (by simp) (by decide)
  have h7 : ∀ v, Fr [] [4, 6, 7, 9] u v → Fr [71] [4, 6, 7, 9] u v := fun v hv => hv.mo (by simp) (fun _ q => q)
  unfold mX9_taskClause
  rw [e1]
  simp only [ob_q, bd_q]
  cases hs : wdO 17 B n p with
  | none =>
    obtain ⟨u2, e2, f2, l2, g2⟩ := tNeeds (m := 16) none (fun j hj => by cases hj) l1 k6 k9 (by omega) (by decide)
    rw [show mX9_needs u1 ((none : Option Nat).elim (-1) nI) 16 = some u2 from e2]
    simp only [ob_q]
    have F := (hm _ _ f1).tr (hm2 _ _ f2)
    have g2' : gI u2 9 0 6 = 1 ∧ gI u2 9 0 7 = nI p := g2
    rw [g2'.1, if_neg (by decide)]
    exact ⟨u2, p, rfl, l2, h7 _ F, s71 u2 F, g2'⟩
  | some j =>
    have hj5 := wd17_lt hs
    obtain ⟨u2, e2, f2, l2, g2⟩ := tNeeds (m := 16) (some j) (fun j' hj => by injection hj with hj; omega) l1 k6 k9 (by omega) (by decide)
    have g2' : if k = 16 then gI u2 9 0 6 = 3 ∧ gI u2 9 0 7 = nI p else u2 = u1 := g2
    rw [show mX9_needs u1 ((some j).elim (-1) nI) 16 = some u2 from e2]
    simp only [ob_q]
    have F := (hm _ _ f1).tr (hm2 _ _ f2)
    by_cases c : k = 16
    · rw [if_pos c] at g2'
      rw [g2'.1, if_neg (by decide)]
      exact ⟨u2, p, rfl, l2, h7 _ F, s71 u2 F, by simp only [if_neg (show ¬ k < 16 by omega)]; exact g2'⟩
    · rw [if_neg c] at g2'
      subst g2'
      rw [k6, if_pos rfl]
      obtain ⟨u3, e3, l3, f3⟩ := tSkipW l1
      rw [show wh B isAz n p = wsE B n p from by unfold wsE; rw [hp]] at l3
      have hy : (if 3 ≤ (some j).elim (-1) nI then some 9 else some 7 : Option Int32) = some (if 3 ≤ j then 9 else 7) := by
        show (if 3 ≤ nI j then some 9 else some 7 : Option Int32) = _
        by_cases q : 3 ≤ j
        · rw [if_pos (show (3 : Int32) ≤ nI j from nI_le (a := 3) q (by omega)), if_pos q]
        · rw [if_neg (show ¬ (3 : Int32) ≤ nI j from nI_ge (b := 3) (by omega) (by decide)), if_neg q]
      rw [e3]
      simp only [ob_q]
      rw [hy]
      simp only [ob_q]
      have F3 := F.tr (hm _ _ f3)
      have j6 : gI u3 9 0 6 = 0 := (f3.2.1 6 (by decide)).trans k6
      obtain ⟨x, u4, p4, e4, f4, l4, -, g4⟩ := tNum 0 (if 3 ≤ j then 9 else 7) (-1) l3
      have g4' := g4 j6
      rw [e4]
      simp only [ob_q]
      have F4 := F3.tr (hm3 _ _ f4)
      obtain ⟨u5, p5, e5, f5, l5, n5, g5⟩ := tSign 59 (by decide) l4
      rw [e5]
      simp only [ob_q]
      have F5 := F4.tr (hm3 _ _ f5)
      have F6 : Fr [] [4, 6, 7, 9] u (wI u5 9 0 9 (gI u5 9 0 9 + 1)) := F5.w9 (by decide)
      have l6 : LexR B n p5 (wI u5 9 0 9 (gI u5 9 0 9 + 1)) := l5.k (by decide) (by decide)
      have q6 : gI (wI u5 9 0 9 (gI u5 9 0 9 + 1)) 9 0 6 = gI u5 9 0 6 := gI_k (by decide)
      have q7 : gI (wI u5 9 0 9 (gI u5 9 0 9 + 1)) 9 0 7 = gI u5 9 0 7 := gI_k (by decide)
      simp only [if_pos (show k < 16 by omega)]
      have hlt : (if 3 ≤ j then 9 else 7 : Int32) < nI 100000 := by split <;> decide
      cases hN : numO 100000 B n (wsE B n p) 0 (if 3 ≤ j then 9 else 7) (-1) with
      | error eq =>
        obtain ⟨κ, q⟩ := eq
        rw [hN] at g4'
        have hk0 := numO_err hN
        obtain ⟨b5, b6⟩ := n5 (by rw [g4'.1]; exact hk0)
        rw [if_neg (by rw [q6, b5, g4'.1]; exact hk0)]
        exact ⟨_, p5, rfl, l6, h7 _ F6, s71 _ F6, by rw [q6, b5]; exact g4'.1, by rw [q7, b6]; exact g4'.2⟩
      | ok Ve =>
        obtain ⟨V, e⟩ := Ve
        have hV := numO_lt hlt hN
        rw [hN] at g4'
        obtain ⟨gx, b6, b7, bp⟩ := g4'
        subst bp
        rw [Nat.min_eq_left (by omega)] at gx
        have g5' := g5 b6
        cases hS : sgB B n p4 59 with
        | false =>
          rw [hS, if_neg (by decide)] at g5'
          rw [if_neg (by rw [q6, g5'.1]; decide)]
          refine ⟨_, p5, rfl, l6, h7 _ F6, s71 _ F6, ?_⟩
          simp only [hS, Bool.false_eq_true, if_false]
          exact ⟨by rw [q6]; exact g5'.1, by rw [q7]; exact g5'.2⟩
        | true =>
          rw [hS, if_pos rfl] at g5'
          obtain ⟨d6, d7, dp⟩ := g5'
          subst dp
          have d15 : gI (wI u5 9 0 9 (gI u5 9 0 9 + 1)) 9 0 15 = nI t := by rw [F6.2.1 15 (by decide), ht]
          have d9 : gI u5 9 0 9 = nI k := by rw [f5.2.1 9 (by decide), f4.2.1 9 (by decide), f3.2.1 9 (by decide), k9]
          have d71 : gI (wI u5 9 0 9 (gI u5 9 0 9 + 1)) 71 = gI u 71 := F6.m1 (by simp) (by decide)
          rw [if_pos (by rw [q6, d6]), d15, ck_nI ht6 (by decide)]
          simp only [ob_q, d71]
          have hx : (if 2 ≤ (some j).elim (-1) nI then some x else (ck 5 ((some j).elim (-1) nI)).bind fun k125 => some (gI u 71 t k125 ||| ((1 : Int32) <<< (x &&& 31))) : Option Int32) = some (tkP T j (nI V) j) := by
            show (if 2 ≤ nI j then some x else (ck 5 (nI j)).bind fun k125 => some (gI u 71 t k125 ||| ((1 : Int32) <<< (x &&& 31))) : Option Int32) = _
            unfold tkP
            rw [if_pos rfl, gx, ck_nI hj5 (by decide)]
            simp only [ob_q, hT j hj5]
            by_cases q : j < 2
            · rw [if_neg (show ¬ (2 : Int32) ≤ nI j from nI_ge (b := 2) q (by decide)), if_pos q]
            · rw [if_pos (show (2 : Int32) ≤ nI j from nI_le (a := 2) (by omega) (by omega)), if_neg q]
          rw [hx]
          simp only [ob_q]
          rw [show ck 5 ((some j).elim (-1) nI) = some j from ck_nI hj5 (by decide)]
          simp only [ob_q]
          refine ⟨_, sk B n p4 + 1, rfl, ?_, (h7 _ F6).sI (by decide) (by decide), fun i hi => by rw [gI_ri hi, d71], ?_⟩
          · obtain ⟨a1, a2, a3, a4, a5⟩ := l6
            exact ⟨by rw [gI_r (by decide)]; exact a1, a2, by rw [gI_r (by decide)]; exact a3, a4, fun k hk => by rw [gI_r (by decide)]; exact a5 k hk⟩
          · simp only [hS, if_true]
            refine ⟨by rw [gI_r (by decide), q6, d6], by rw [gI_r (by decide), q7, d7, b7, f3.2.1 7 (by decide), k7], trivial, by rw [gI_r (by decide), gI_eq, d9, nI_1], fun c hc => ?_⟩
            by_cases e : c = j
            · rw [e, gI_eq]
            · rw [gI_k e, d71, hT c hc]; unfold tkP; rw [if_neg e]
