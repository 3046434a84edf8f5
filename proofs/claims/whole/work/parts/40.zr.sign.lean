theorem LexR.fr {B : Nat → Int32} {n p : Nat} {L K : List Nat} {u v : HS} (h : LexR B n p u) (hF : Fr L K u v) (hL : 60 ∉ L) (h2 : 2 ∉ K) (h3 : 4 ∉ K) : LexR B n p v := by
  obtain ⟨a1, a2, a3, a4, a5⟩ := h
  exact ⟨by rw [hF.2.1 2 h2]; exact a1, a2, by rw [hF.2.1 4 h3]; exact a3, a4, fun k hk => by rw [hF.m1 hL (by decide)]; exact a5 k hk⟩
theorem rWrong {u : HS} (k at' : Int32) : ∃ u', mX9_wrongAt u k at' = some u' ∧ Fr [] [6, 7] u u' ∧ (gI u 9 0 6 = 0 → gI u' 9 0 6 = k ∧ gI u' 9 0 7 = at') ∧ (gI u 9 0 6 ≠ 0 → u' = u) := by
  unfold mX9_wrongAt
  by_cases c : gI u 9 0 6 = 0
  · rw [if_pos c]
    simp only [bd_q]
    exact ⟨_, rfl, (Fr.rf.w9 (by decide)).w9 (by decide), fun _ => ⟨by rw [gI_k (by decide), gI_eq], by rw [gI_eq]⟩, fun q => absurd c q⟩
  · rw [if_neg c]
    exact ⟨u, rfl, Fr.rf, fun q => absurd q c, fun _ => rfl⟩
theorem numV_no {B : Nat → Int32} {d p v : Nat} (h : d = 0 ∨ isDg (B p) = false) : numV B d p v = v := by
  cases d with
  | zero => rfl
  | succ d =>
    rcases h with z | z
    · cases z
    · show (if isDg (B p) = true then _ else v) = v
      rw [if_neg (by rw [z]; decide)]
/-- the reference's number -/
theorem tNum {B : Nat → Int32} {n p : Nat} {u : HS} (x y no : Int32) (h : LexR B n p u) : ∃ val u' p', mX9_number u x y no = some (val, u') ∧ Fr [] [4, 6, 7] u u' ∧ LexR B n p' u' ∧ (gI u 9 0 6 ≠ 0 → gI u' 9 0 6 = gI u 9 0 6 ∧ gI u' 9 0 7 = gI u 9 0 7) ∧ (gI u 9 0 6 = 0 → match numO 100000 B n p x y no with | .ok (V, e) => val = nI (min V 100000) ∧ gI u' 9 0 6 = 0 ∧ gI u' 9 0 7 = gI u 9 0 7 ∧ p' = e | .error (k, q) => gI u' 9 0 6 = k ∧ gI u' 9 0 7 = nI q) := by
  have hn := h.2.1
  have hsk := sk_le (B := B) h.2.2.2.1
  unfold mX9_number
  by_cases c0 : gI u 9 0 6 = 0
  · rw [if_pos c0]
    obtain ⟨u1, e1, l1, f1⟩ := rSkip h
    have g6 : gI u1 9 0 6 = 0 := (f1.2.1 6 (by decide)).trans c0
    have g7 : gI u1 9 0 7 = gI u 9 0 7 := f1.2.1 7 (by decide)
    rw [e1]
    simp only [ob_q, bd_q, jp_q, l1.2.2.1, rByte l1 hsk.2, rDig]
    have W : ∀ v : HS, LexR B n (sk B n p) v → ∃ u2, mX9_number_L45 (fun (x113 : Int32) (u114 : HS) => (mX9_in x113 x y).bind fun x117 => if x117 = 0 then (mX9_wrongAt u114 2 (nI (sk B n p))).bind fun u120 => some (x113, u120) else if x113 = no then (mX9_wrongAt u114 2 (nI (sk B n p))).bind fun u120 => some (x113, u120) else some (x113, u114)) FU 0 v = (mX9_in (nI (min (numV B (n - sk B n p) (sk B n p) 0) 100000)) x y).bind (fun x117 => if x117 = 0 then (mX9_wrongAt u2 2 (nI (sk B n p))).bind fun u120 => some (nI (min (numV B (n - sk B n p) (sk B n p) 0) 100000), u120) else if nI (min (numV B (n - sk B n p) (sk B n p) 0) 100000) = no then (mX9_wrongAt u2 2 (nI (sk B n p))).bind fun u120 => some (nI (min (numV B (n - sk B n p) (sk B n p) 0) 100000), u120) else some (nI (min (numV B (n - sk B n p) (sk B n p) 0) 100000), u2)) ∧ LexR B n (wh B isDg n (sk B n p)) u2 ∧ Fr [] [4] v u2 := fun v hv => by
      obtain ⟨u2, e2, l2, f2⟩ := rNumL (w := fun (x113 : Int32) (u114 : HS) => (mX9_in x113 x y).bind fun x117 => if x117 = 0 then (mX9_wrongAt u114 2 (nI (sk B n p))).bind fun u120 => some (x113, u120) else if x113 = no then (mX9_wrongAt u114 2 (nI (sk B n p))).bind fun u120 => some (x113, u120) else some (x113, u114)) (n - sk B n p) (sk B n p) FU 0 v (by omega) (FU_lt (by omega)) hv
      exact ⟨u2, e2, l2, f2⟩
    by_cases c1 : sk B n p < n ∧ isDg (B (sk B n p)) = true
    · rw [if_pos c1.1, c1.2, if_neg (show ¬ bI true = 0 by decide)]
      obtain ⟨u2, e2, l2, f2⟩ := W u1 l1
      rw [e2, inr_ok]
      simp only [ob_q]
      have F2 := f1.tr f2
      obtain ⟨u3, e3, f3, b3, -⟩ := rWrong (u := u2) 2 (nI (sk B n p))
      have k6 : gI u2 9 0 6 = 0 := (F2.2.1 6 (by decide)).trans c0
      have k7 : gI u2 9 0 7 = gI u 9 0 7 := F2.2.1 7 (by decide)
      have bad : numO 100000 B n p x y no = .error (2, sk B n p) → ∃ val u' p', ((mX9_wrongAt u2 2 (nI (sk B n p))).bind fun u120 => some (nI (min (numV B (n - sk B n p) (sk B n p) 0) 100000), u120)) = some (val, u') ∧ Fr [] [4, 6, 7] u u' ∧ LexR B n p' u' ∧ (gI u 9 0 6 ≠ 0 → gI u' 9 0 6 = gI u 9 0 6 ∧ gI u' 9 0 7 = gI u 9 0 7) ∧ (gI u 9 0 6 = 0 → match numO 100000 B n p x y no with | .ok (V, e) => val = nI (min V 100000) ∧ gI u' 9 0 6 = 0 ∧ gI u' 9 0 7 = gI u 9 0 7 ∧ p' = e | .error (k, q) => gI u' 9 0 6 = k ∧ gI u' 9 0 7 = nI q) := fun hb => by
        rw [e3, hb]
        exact ⟨_, u3, wh B isDg n (sk B n p), rfl, (F2.mo (by simp) (by decide)).tr (f3.mo (by simp) (by decide)), l2.fr f3 (by simp) (by decide) (by decide), fun q => absurd c0 q, fun _ => b3 k6⟩
      cases d : inR (nI (min (numV B (n - sk B n p) (sk B n p) 0) 100000)) x y with
      | false =>
        rw [if_pos (show bI false = 0 from rfl)]
        exact bad (by unfold numO; rw [if_pos c1, d, if_neg (by simp)])
      | true =>
        rw [if_neg (show ¬ bI true = 0 by decide)]
        by_cases e : nI (min (numV B (n - sk B n p) (sk B n p) 0) 100000) = no
        · rw [if_pos e]
          exact bad (by unfold numO; rw [if_pos c1, d, if_neg (fun z => z.2 e)])
        · rw [if_neg e]
          refine ⟨_, u2, wh B isDg n (sk B n p), rfl, F2.mo (by simp) (by decide), l2, fun q => absurd c0 q, fun _ => ?_⟩
          rw [show numO 100000 B n p x y no = .ok (numV B (n - sk B n p) (sk B n p) 0, wh B isDg n (sk B n p)) from by unfold numO; rw [if_pos c1, d, if_pos ⟨rfl, e⟩]]
          exact ⟨rfl, k6, k7, rfl⟩
    · have hb : isDg (if sk B n p < n then B (sk B n p) else -1) = false := by
        by_cases q : sk B n p < n
        · rw [if_pos q]; exact eq_false_of_ne_true (fun z => c1 ⟨q, z⟩)
        · rw [if_neg q]; decide
      rw [hb, if_pos (show bI false = 0 from rfl)]
      obtain ⟨u3, e3, f3, b3, -⟩ := rWrong (u := u1) 1 (nI (sk B n p))
      rw [e3]
      simp only [ob_q]
      have l3 : LexR B n (sk B n p) u3 := l1.fr f3 (by simp) (by decide) (by decide)
      obtain ⟨u2, e2, l2, f2⟩ := W u3 l3
      rw [e2, inr_ok]
      simp only [ob_q]
      obtain ⟨b6, b7⟩ := b3 g6
      have k6 : gI u2 9 0 6 = 1 := (f2.2.1 6 (by decide)).trans b6
      have k7 : gI u2 9 0 7 = nI (sk B n p) := (f2.2.1 7 (by decide)).trans b7
      obtain ⟨u4, e4, -, -, b4⟩ := rWrong (u := u2) 2 (nI (sk B n p))
      have := b4 (by rw [k6]; decide)
      subst this
      have F2 : Fr [] [4, 6, 7] u u4 := ((f1.mo (L' := []) (K' := [4, 6, 7]) (by simp) (by decide)).tr (f3.mo (by simp) (by decide))).tr (f2.mo (by simp) (by decide))
      refine ⟨nI (min (numV B (n - sk B n p) (sk B n p) 0) 100000), u4, _, ?_, F2, l2, fun q => absurd c0 q, fun _ => ?_⟩
      · rw [e4]
        simp only [ob_q]
        split
        · rfl
        · split <;> rfl
      · rw [show numO 100000 B n p x y no = .error (1, sk B n p) from if_neg c1]
        exact ⟨k6, k7⟩
  · rw [if_neg c0]
    exact ⟨0, u, p, rfl, Fr.rf, h, fun _ => ⟨rfl, rfl⟩, fun q => absurd q c0⟩
/-! signs -/
def sgB (B : Nat → Int32) (n p : Nat) (c : Int32) : Bool := decide (sk B n p < n) && decide (B (sk B n p) = c)
theorem tSign {B : Nat → Int32} {n p : Nat} {u : HS} (c : Int32) (hc : c ≠ -1) (h : LexR B n p u) : ∃ u' p', mX9_sign u c = some u' ∧ Fr [] [4, 6, 7] u u' ∧ LexR B n p' u' ∧ (gI u 9 0 6 ≠ 0 → gI u' 9 0 6 = gI u 9 0 6 ∧ gI u' 9 0 7 = gI u 9 0 7) ∧ (gI u 9 0 6 = 0 → if sgB B n p c = true then gI u' 9 0 6 = 0 ∧ gI u' 9 0 7 = gI u 9 0 7 ∧ p' = sk B n p + 1 else gI u' 9 0 6 = 1 ∧ gI u' 9 0 7 = nI (sk B n p)) := by
  have hn := h.2.1
  have hsk := sk_le (B := B) h.2.2.2.1
  unfold mX9_sign
  by_cases c0 : gI u 9 0 6 = 0
  · rw [if_pos c0]
    obtain ⟨u1, e1, l1, f1⟩ := rSkip h
    have g6 : gI u1 9 0 6 = 0 := (f1.2.1 6 (by decide)).trans c0
    have g7 : gI u1 9 0 7 = gI u 9 0 7 := f1.2.1 7 (by decide)
    rw [e1]
    simp only [ob_q, bd_q, l1.2.2.1, rByte l1 hsk.2, nI_1]
    cases d : sgB B n p c with
    | true =>
      unfold sgB at d
      simp only [Bool.and_eq_true, decide_eq_true_eq] at d
      rw [if_pos d.1, if_pos d.2]
      exact ⟨_, sk B n p + 1, rfl, (f1.mo (by simp) (by decide)).w9 (by decide), l1.mv (by omega), fun q => absurd c0 q, fun _ => by rw [if_pos rfl]; exact ⟨by rw [gI_k (by decide)]; exact g6, by rw [gI_k (by decide)]; exact g7, rfl⟩⟩
    | false =>
      have : ¬ (if sk B n p < n then B (sk B n p) else -1) = c := by
        by_cases q : sk B n p < n
        · rw [if_pos q]; intro z; unfold sgB at d; rw [decide_eq_true q, decide_eq_true z] at d; cases d
        · rw [if_neg q]; exact Ne.symm hc
      rw [if_neg this]
      obtain ⟨u3, e3, f3, b3, -⟩ := rWrong (u := u1) 1 (nI (sk B n p))
      rw [e3]
      simp only [ob_q]
      exact ⟨u3, sk B n p, rfl, (f1.mo (by simp) (by decide)).tr (f3.mo (by simp) (by decide)), l1.fr f3 (by simp) (by decide) (by decide), fun q => absurd c0 q, fun _ => by rw [if_neg (by decide)]; exact b3 g6⟩
  · rw [if_neg c0]
    exact ⟨u, p, rfl, Fr.rf, h, fun _ => ⟨rfl, rfl⟩, fun q => absurd q c0⟩
