/-! what a number's place gives: a number and the place behind it, or a fault and its place -/
def numO (M : Nat) (B : Nat → Int32) (n p : Nat) (x y no : Int32) : Except (Int32 × Nat) (Nat × Nat) := if sk B n p < n ∧ isDg (B (sk B n p)) = true then (if inR (nI (min (numV B (n - sk B n p) (sk B n p) 0) M)) x y = true ∧ nI (min (numV B (n - sk B n p) (sk B n p) 0) M) ≠ no then .ok (numV B (n - sk B n p) (sk B n p) 0, wh B isDg n (sk B n p)) else .error (2, sk B n p)) else .error (1, sk B n p)
theorem sk_le {B : Nat → Int32} {n p : Nat} (h : p ≤ n) : p ≤ sk B n p ∧ sk B n p ≤ n := wh_le h
theorem inR_cap {V : Nat} {x y : Int32} (hy : y < nI 100000) : inR (nI (min V 1000000)) x y = inR (nI (min V 100000)) x y := by
  by_cases c : V < 100000
  · rw [Nat.min_eq_left (by omega), Nat.min_eq_left (by omega)]
  · have f : ∀ m, 100000 ≤ m → m < 2 ^ 31 → inR (nI m) x y = false := fun m h1 h2 => by
      unfold inR
      rw [decide_eq_false (p := nI m ≤ y) (fun q => ?_), Bool.and_false]
      have := Int32.lt_of_le_of_lt q hy
      exact nI_nlt (a := m) (b := 100000) h1 (by omega) this
    rw [f _ (by omega) (by omega), f _ (by omega) (by omega)]
theorem inR_le {V : Nat} {x y : Int32} (hy : y < nI 100000) (h : inR (nI (min V 100000)) x y = true) : V < 100000 := by
  by_cases c : V < 100000
  · exact c
  · exfalso
    rw [Nat.min_eq_right (by omega)] at h
    unfold inR at h
    simp only [Bool.and_eq_true, decide_eq_true_eq] at h
    exact Int32.not_lt.mpr h.2 hy
/-- both sides' numbers agree -/
theorem numO_eq {B : Nat → Int32} {n p : Nat} {x y : Int32} (hy : y < nI 100000) : numO 1000000 B n p x y (-1) = numO 100000 B n p x y (-1) := by
  unfold numO
  rw [inR_cap hy]
  have h1 : ∀ m, m < 2 ^ 31 → nI m ≠ -1 := fun m hm => nI_m1 hm
  simp only [ne_eq, h1 _ (show min (numV B (n - sk B n p) (sk B n p) 0) 1000000 < 2 ^ 31 by omega), h1 _ (show min (numV B (n - sk B n p) (sk B n p) 0) 100000 < 2 ^ 31 by omega)]
theorem cBlame {u : HS} (k at' : Int32) : ∃ u', mX5_blame u k at' = some u' ∧ FC [5, 6] u u' ∧ (gI u 5 0 5 = 0 → gI u' 5 0 5 = k ∧ gI u' 5 0 6 = at') ∧ (gI u 5 0 5 ≠ 0 → u' = u) := by
  unfold mX5_blame
  by_cases c : gI u 5 0 5 = 0
  · rw [if_pos c]
    simp only [bd_q]
    exact ⟨_, rfl, (FC.rf.w (by decide)).w (by decide), fun _ => ⟨by rw [gI_k (by decide), gI_eq], by rw [gI_eq]⟩, fun q => absurd c q⟩
  · rw [if_neg c]
    exact ⟨u, rfl, FC.rf, fun q => absurd q c, fun _ => rfl⟩
theorem LexC.fc {B : Nat → Int32} {n p : Nat} {K : List Nat} {u v : HS} (h : LexC B n p u) (hF : FC K u v) (h2 : 2 ∉ K) (h3 : 3 ∉ K) : LexC B n p v := by
  obtain ⟨a1, a2, a3, a4, a5⟩ := h
  exact ⟨by rw [hF.2.1 2 h2]; exact a1, a2, by rw [hF.2.1 3 h3]; exact a3, a4, fun k hk => by rw [hF.1 45 (by decide)]; exact a5 k hk⟩
/-- the class's number -/
theorem cNum {B : Nat → Int32} {n p : Nat} {u : HS} (x y : Int32) (h : LexC B n p u) : ∃ val u' p', mX5_demandNumber u x y = some (val, u') ∧ FC [3, 4, 5, 6] u u' ∧ LexC B n p' u' ∧ (gI u 5 0 5 ≠ 0 → gI u' 5 0 5 = gI u 5 0 5 ∧ gI u' 5 0 6 = gI u 5 0 6) ∧ (gI u 5 0 5 = 0 → match numO 1000000 B n p x y (-1) with | .ok (V, e) => val = nI (min V 1000000) ∧ gI u' 5 0 5 = 0 ∧ gI u' 5 0 6 = gI u 5 0 6 ∧ p' = e ∧ gI u' 5 0 4 = nI (sk B n p) | .error (k, q) => gI u' 5 0 5 = k ∧ gI u' 5 0 6 = nI q) := by
  have hn := h.2.1
  have hsk := sk_le (B := B) h.2.2.2.1
  obtain ⟨u1, e1, l1, f1⟩ := cSkip h
  have g5 : gI u1 5 0 5 = gI u 5 0 5 := f1.2.1 5 (by decide)
  have g6 : gI u1 5 0 6 = gI u 5 0 6 := f1.2.1 6 (by decide)
  unfold mX5_demandNumber mX5_isNumberNext
  rw [e1]
  simp only [ob_q, bd_q, jp_q, g5]
  by_cases c0 : gI u 5 0 5 = 0
  · rw [if_pos c0, l1.2.2.1, cIsAt l1 hsk.2]
    simp only [ob_q]
    by_cases c1 : sk B n p < n ∧ isDg (B (sk B n p)) = true
    · have hb : (if sk B n p < n then bI (!decide (B (sk B n p) < 48) && !decide (57 < B (sk B n p))) else 0) = 1 := by
        rw [if_pos c1.1]; show bI (isDg (B (sk B n p))) = 1; rw [c1.2]; rfl
      rw [hb, if_neg (by decide)]
      simp only [ob_q, if_neg (show ¬ (1 : Int32) = 0 by decide)]
      have l2 : LexC B n (sk B n p) (wI u1 5 0 4 (nI (sk B n p))) := l1.k (by decide) (by decide)
      obtain ⟨u2, e2, l3, f2⟩ := cNumL (w := fun (x108 : Int32) (u109 : HS) => if x108 < x then ((mX5_blame u109 2 (gI u109 5 0 4)).bind fun u113 => some (x, u113)) else if x108 ≤ y then some (x108, u109) else ((mX5_blame u109 2 (gI u109 5 0 4)).bind fun u113 => some (x, u113))) (n - sk B n p) (sk B n p) FU 0 _ (by omega) (FU_lt (by omega)) l2
      rw [show nI (min 0 1000000) = 0 from rfl] at e2
      rw [l1.2.2.1, e2]
      have F2 : FC [3, 4] u u2 := ((f1.mo (K' := [3, 4]) (by decide)).w (k := 4) (x := nI (sk B n p)) (by decide)).tr (f2.mo (by decide))
      have k5 : gI u2 5 0 5 = 0 := by rw [F2.2.1 5 (by decide)]; exact c0
      have k6 : gI u2 5 0 6 = gI u 5 0 6 := F2.2.1 6 (by decide)
      have k4 : gI u2 5 0 4 = nI (sk B n p) := by rw [f2.2.1 4 (by decide), gI_eq]
      obtain ⟨u3, e3, f3, b3, -⟩ := cBlame (u := u2) 2 (nI (sk B n p))
      have V1 : nI (min (numV B (n - sk B n p) (sk B n p) 0) 1000000) ≠ -1 := nI_m1 (by omega)
      have hno : ∀ b, inR (nI (min (numV B (n - sk B n p) (sk B n p) 0) 1000000)) x y = b → numO 1000000 B n p x y (-1) = if b = true then .ok (numV B (n - sk B n p) (sk B n p) 0, wh B isDg n (sk B n p)) else .error (2, sk B n p) := fun b hb => by
        unfold numO
        rw [if_pos c1, hb]
        cases b with
        | true => rw [if_pos ⟨rfl, V1⟩, if_pos rfl]
        | false => rw [if_neg (by simp), if_neg (by decide)]
      have bad : inR (nI (min (numV B (n - sk B n p) (sk B n p) 0) 1000000)) x y = false → ∃ val u' p', ((mX5_blame u2 2 (gI u2 5 0 4)).bind fun u113 => some (x, u113)) = some (val, u') ∧ FC [3, 4, 5, 6] u u' ∧ LexC B n p' u' ∧ (gI u 5 0 5 ≠ 0 → gI u' 5 0 5 = gI u 5 0 5 ∧ gI u' 5 0 6 = gI u 5 0 6) ∧ (gI u 5 0 5 = 0 → match numO 1000000 B n p x y (-1) with | .ok (V, e) => val = nI (min V 1000000) ∧ gI u' 5 0 5 = 0 ∧ gI u' 5 0 6 = gI u 5 0 6 ∧ p' = e ∧ gI u' 5 0 4 = nI (sk B n p) | .error (k, q) => gI u' 5 0 5 = k ∧ gI u' 5 0 6 = nI q) := fun hb => by
        rw [k4, e3]
        refine ⟨x, u3, wh B isDg n (sk B n p), rfl, (F2.mo (by decide)).tr (f3.mo (by decide)), l3.fc f3 (by decide) (by decide), fun q => absurd c0 q, fun _ => ?_⟩
        rw [hno false hb, if_neg (by decide)]
        exact b3 k5
      by_cases d1 : nI (min (numV B (n - sk B n p) (sk B n p) 0) 1000000) < x
      · rw [if_pos d1]
        exact bad (by unfold inR; rw [decide_eq_false (Int32.not_le.mpr d1), Bool.false_and])
      · rw [if_neg d1]
        by_cases d2 : nI (min (numV B (n - sk B n p) (sk B n p) 0) 1000000) ≤ y
        · rw [if_pos d2]
          refine ⟨_, u2, wh B isDg n (sk B n p), rfl, F2.mo (by decide), l3, fun q => absurd c0 q, fun _ => ?_⟩
          rw [hno true (by unfold inR; rw [decide_eq_true (Int32.not_lt.mp d1), decide_eq_true d2]; rfl), if_pos rfl]
          exact ⟨rfl, k5, k6, rfl, k4⟩
        · rw [if_neg d2]
          exact bad (by unfold inR; rw [decide_eq_false d2, Bool.and_false])
    · have hb : (if sk B n p < n then bI (!decide (B (sk B n p) < 48) && !decide (57 < B (sk B n p))) else 0) = 0 := by
        by_cases q : sk B n p < n
        · rw [if_pos q]; show bI (isDg (B (sk B n p))) = 0
          rw [eq_false_of_ne_true (fun z => c1 ⟨q, z⟩)]; rfl
        · rw [if_neg q]
      rw [hb, if_pos rfl]
      simp only [ob_q, if_true, l1.2.2.1]
      obtain ⟨u3, e3, f3, b3, -⟩ := cBlame (u := u1) 1 (nI (sk B n p))
      rw [e3]
      refine ⟨x, u3, sk B n p, rfl, (f1.mo (by decide)).tr (f3.mo (by decide)), l1.fc f3 (by decide) (by decide), fun q => absurd c0 q, fun _ => ?_⟩
      rw [show numO 1000000 B n p x y (-1) = .error (1, sk B n p) from if_neg c1]
      exact b3 (g5.trans c0)
  · rw [if_neg c0]
    simp only [ob_q, if_true]
    obtain ⟨u3, e3, f3, -, b3⟩ := cBlame (u := u1) 1 (gI u1 5 0 3)
    have := b3 (by rw [g5]; exact c0)
    subst this
    rw [e3]
    exact ⟨x, u3, sk B n p, rfl, f1.mo (by decide), l1, fun _ => ⟨g5, g6⟩, fun q => absurd q c0⟩
