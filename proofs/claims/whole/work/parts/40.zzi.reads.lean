theorem mor_lt (x y : Int32) : (if x < y then y else x) = mor x y := by
  unfold mor
  by_cases c : x < y
  · rw [if_pos c, if_pos (Int32.le_of_lt c)]
  · rw [if_neg c]
    by_cases d : x ≤ y
    · rw [if_pos d]; exact Int32.le_antisymm d (Int32.not_lt.mp c)
    · rw [if_neg d]
theorem ck168 {w j : Nat} (hw : w < 24) (hj : j < 7) : ck 168 (nI (7 * w) + nI j) = some (7 * w + j) := by rw [nI_add]; exact ck_nI (by omega) (by decide)
theorem ck72 {w j : Nat} (hw : w < 24) (hj : j < 3) : ck 72 (nI (3 * w) + nI j) = some (3 * w + j) := by rw [nI_add]; exact ck_nI (by omega) (by decide)
theorem ck168_0 {w : Nat} (hw : w < 24) : ck 168 (nI (7 * w)) = some (7 * w + 0) := ck_nI (by omega) (by decide)
theorem ck72_0 {w : Nat} (hw : w < 24) : ck 72 (nI (3 * w)) = some (3 * w + 0) := ck_nI (by omega) (by decide)
theorem cReadWay {B : Nat → Int32} {n i w T p : Nat} {u : HS} (hp : CPs B n (.ok p) u) (hT : gI u 3 i 0 = nI T) (hT8 : T ≤ 8) (hw : gI u 3 i 3 = nI w) (hw24 : w < 24) : ∃ v, mX3_readWay u i = some (wI (wI v 3 i 11 (mor (gI u 3 i 11) (gI v 39 i (7 * w + 4)))) 3 i 3 (nI (w + 1))) ∧ NR B n 39 i (7 * w) 7 (scN B n p T 1) u v := by
  have hr : (39 : Nat) ≠ 5 ∧ (39 : Nat) ≠ 45 := by decide
  obtain ⟨x1, u1, e1, h1, -, k1⟩ := (NR.z (r := 39) (i := i) (base := 7 * w) hp).step hr (fun _ => (0, nI T - 1, -1)) 0 (nI T - 1) (fun _ _ _ => ⟨rfl, T1_lt hT8⟩)
  obtain ⟨x2, u2, e2, h2, -, k2⟩ := h1.step hr (fun _ => (0, 299, -1)) 0 299 (fun _ _ _ => ⟨rfl, by decide⟩)
  obtain ⟨x3, u3, e3, h3, -, k3⟩ := h2.step hr (fun _ => (0, 39, -1)) 0 39 (fun _ _ _ => ⟨rfl, by decide⟩)
  obtain ⟨x4, u4, e4, h4, -, k4⟩ := h3.step hr (fun _ => (0, 29, -1)) 0 29 (fun _ _ _ => ⟨rfl, by decide⟩)
  obtain ⟨x5, u5, e5, h5, -, k5⟩ := h4.step hr (fun a => (nI (a.getD 1 0), 299, -1)) (gI (wI u4 39 i (7 * w + (0 + 1 + 1 + 1)) x4) 39 i (7 * w + 1)) 299 (fun a p ha => ⟨by rw [(h4.2.2.2 a p ha).2 1 (by decide)], by decide⟩)
  obtain ⟨x6, u6, e6, h6, -, k6⟩ := h5.step hr (fun _ => (0, 39, -1)) 0 39 (fun _ _ _ => ⟨rfl, by decide⟩)
  obtain ⟨x7, u7, e7, h7, -, k7⟩ := h6.step hr (fun _ => (0, 29, -1)) 0 29 (fun _ _ _ => ⟨rfl, by decide⟩)
  have q : ∀ j, j < 7 → ck 168 (nI (7 * w) + nI j) = some (7 * w + j) := fun j hj => ck168 hw24 hj
  have q1 : ck 168 (nI (7 * w) + 1) = some (7 * w + 1) := q 1 (by decide)
  have q2 : ck 168 (nI (7 * w) + 2) = some (7 * w + 2) := q 2 (by decide)
  have q3 : ck 168 (nI (7 * w) + 3) = some (7 * w + 3) := q 3 (by decide)
  have q4 : ck 168 (nI (7 * w) + 4) = some (7 * w + 4) := q 4 (by decide)
  have q5 : ck 168 (nI (7 * w) + 5) = some (7 * w + 5) := q 5 (by decide)
  have q6 : ck 168 (nI (7 * w) + 6) = some (7 * w + 6) := q 6 (by decide)
  refine ⟨_, ?_, h7⟩
  unfold mX3_readWay
  simp only [bd_q, hw, hT, show (nI w * 7 : Int32) = nI (7 * w) from by rw [show (nI w * 7 : Int32) = nI (w * 7) from pk_mul w 7, Nat.mul_comm]]
  rw [e1]
  simp only [ob_q, ck168_0 hw24]
  rw [e2]
  simp only [ob_q, q1]
  rw [show 7 * w + (0 + 1) = 7 * w + 1 from rfl] at e3
  rw [e3]
  simp only [ob_q, q2]
  rw [show 7 * w + (0 + 1 + 1) = 7 * w + 2 from rfl] at e4
  rw [e4]
  simp only [ob_q, q3]
  rw [show 7 * w + (0 + 1 + 1 + 1) = 7 * w + 3 from rfl] at e5
  rw [e5]
  simp only [ob_q, q4]
  rw [show 7 * w + (0 + 1 + 1 + 1 + 1) = 7 * w + 4 from rfl] at e6
  rw [e6]
  simp only [ob_q, q5]
  rw [show 7 * w + (0 + 1 + 1 + 1 + 1 + 1) = 7 * w + 5 from rfl] at e7
  rw [e7]
  simp only [ob_q, q6]
  have z3 := h7.2.1.1 3 (by decide) (by decide)
  rw [show 7 * w + (0 + 1 + 1 + 1 + 1 + 1 + 1) = 7 * w + 6 from rfl] at z3 ⊢
  rw [mor_lt, gI_k (show 3 ≠ 11 by decide), z3, hw, nI_1]
theorem cReadTurn {B : Nat → Int32} {n i w T p : Nat} {u : HS} (hp : CPs B n (.ok p) u) (hT : gI u 3 i 0 = nI T) (hT8 : T ≤ 8) (hw : gI u 3 i 7 = nI w) (hw24 : w < 24) : ∃ v, mX3_readTurn u i = some (wI (if gI u 3 i 10 = -1 then wI v 3 i 10 (gI v 41 i (3 * w + 0)) else v) 3 i 7 (nI (w + 1))) ∧ NR B n 41 i (3 * w) 3 (scN B n p T 4) u v := by
  have hr : (41 : Nat) ≠ 5 ∧ (41 : Nat) ≠ 45 := by decide
  obtain ⟨x1, u1, e1, h1, -, k1⟩ := (NR.z (r := 41) (i := i) (base := 3 * w) hp).step hr (fun _ => (0, nI T - 1, -1)) 0 (nI T - 1) (fun _ _ _ => ⟨rfl, T1_lt hT8⟩)
  obtain ⟨x2, u2, e2, h2, -, k2⟩ := h1.step hr (fun _ => (0, 299, -1)) 0 299 (fun _ _ _ => ⟨rfl, by decide⟩)
  obtain ⟨x3, u3, e3, h3, -, k3⟩ := h2.step hr (fun _ => (0, 7, -1)) 0 7 (fun _ _ _ => ⟨rfl, by decide⟩)
  have q : ∀ j, j < 3 → ck 72 (nI (3 * w) + nI j) = some (3 * w + j) := fun j hj => ck72 hw24 hj
  have q1 : ck 72 (nI (3 * w) + 1) = some (3 * w + 1) := q 1 (by decide)
  have q2 : ck 72 (nI (3 * w) + 2) = some (3 * w + 2) := q 2 (by decide)
  refine ⟨_, ?_, h3⟩
  unfold mX3_readTurn
  simp only [bd_q, hw, hT, show (nI w * 3 : Int32) = nI (3 * w) from by rw [show (nI w * 3 : Int32) = nI (w * 3) from pk_mul w 3, Nat.mul_comm]]
  rw [e1]
  simp only [ob_q, ck72_0 hw24]
  rw [e2]
  simp only [ob_q, q1]
  rw [show 3 * w + (0 + 1) = 3 * w + 1 from rfl] at e3
  rw [e3]
  simp only [ob_q, q2]
  have z3 := h3.2.1.1 3 (by decide) (by decide)
  rw [show 3 * w + (0 + 1 + 1) = 3 * w + 2 from rfl] at z3 ⊢
  rw [z3]
  by_cases c : gI u 3 i 10 = -1
  · rw [if_pos c, if_pos c]
    simp only [ob_q]
    rw [gI_k (show 7 ≠ 10 by decide), z3, hw, nI_1]
  · rw [if_neg c, if_neg c]
    simp only [ob_q, z3, hw, nI_1]
/-- the second of a throw must not be the first -/
theorem NR.no {B : Nat → Int32} {n r i base T : Nat} {s : PE (List Nat × Nat)} {u0 u : HS} (h : NR B n r i base 1 s u0 u) (hr : r ≠ 5 ∧ r ≠ 45) (hT8 : T ≤ 8) (hs : ∀ a p, s = .ok (a, p) → a.getD 0 0 < 2 ^ 31) (hsk : ∀ a p, s = .ok (a, p) → sk B n p = p) : ∃ val u1 u2, mX5_demandNumber u 0 (nI T - 1) = some (val, u1) ∧ (if gI (wI u1 r i (base + 1) val) r i (base + 1) = gI (wI u1 r i (base + 1) val) r i (base + 0) then (mX5_blame (wI u1 r i (base + 1) val) 2 (gI (wI u1 r i (base + 1) val) 5 0 4)).bind fun u124 => some u124 else some (wI u1 r i (base + 1) val)) = some u2 ∧ NR B n r i base 2 (stN B n s (fun a => (0, nI T - 1, nI (a.getD 0 0)))) u0 u2 := by
  obtain ⟨val, u1, e1, h1, t1, k1⟩ := h.step hr (fun _ => (0, nI T - 1, -1)) 0 (nI T - 1) (fun _ _ _ => ⟨rfl, T1_lt hT8⟩)
  obtain ⟨u2, e2, f2, b2, b3⟩ := cBlame (u := wI u1 r i (base + 1) val) 2 (gI (wI u1 r i (base + 1) val) 5 0 4)
  have fr : ∀ v, FC [5, 6] (wI u1 r i (base + 1) val) v → ((∀ r', r' ≠ 5 → r' ≠ r → gI v r' = gI u0 r') ∧ (∀ i', i' ≠ i → gI v r i' = gI u0 r i') ∧ (∀ k, k ∉ [3, 4, 5, 6] → gI v 5 0 k = gI u0 5 0 k) ∧ gR v = gR u0) ∧ (∀ k, k < base → gI v r i k = gI u0 r i k) := fun v hv => by
    obtain ⟨-, ⟨g1, g2, g3, g4⟩, h3, -⟩ := h1
    exact ⟨⟨fun r' a b => (hv.1 r' a).trans (g1 r' a b), fun i' a => by rw [hv.1 r hr.1]; exact g2 i' a, fun k hk => (hv.2.1 k (by simp at hk ⊢; omega)).trans (g3 k hk), hv.2.2.trans g4⟩, fun k hk => by rw [hv.1 r hr.1]; exact h3 k hk⟩
  cases s with
  | error e =>
    -- a fault stands: nothing moves
    obtain ⟨c1, -⟩ := h1
    obtain ⟨⟨p', l⟩, hk, h5, h6⟩ := c1
    have e2' := b3 (by rw [h5]; exact hk)
    rw [e2']  at e2
    refine ⟨val, u1, wI u1 r i (base + 1) val, e1, ?_, ⟨⟨p', l⟩, hk, h5, h6⟩, (fr _ FC.rf).1, (fr _ FC.rf).2, fun a p ha => by cases ha⟩
    rw [e2]
    split <;> rfl
  | ok ap =>
    obtain ⟨a, p⟩ := ap
    have hF := hs a p rfl
    have hk := hsk a p rfl
    obtain ⟨la, va⟩ := h.2.2.2 a p rfl
    have v0 : gI (wI u1 r i (base + 1) val) r i (base + 0) = nI (a.getD 0 0) := by
      rw [gI_k (by omega), k1 r hr.1]; exact va 0 (by decide)
    simp only [stN, numO_no (T1_lt hT8) hF]
    cases hN : numO 100000 B n p 0 (nI T - 1) (-1) with
    | error e =>
      obtain ⟨c1, -⟩ := h1
      simp only [stN, hN] at c1
      obtain ⟨⟨p', l⟩, hk, h5, h6⟩ := c1
      have e2' := b3 (by rw [h5]; exact hk)
      rw [e2'] at e2
      refine ⟨val, u1, wI u1 r i (base + 1) val, e1, ?_, ⟨⟨p', l⟩, hk, h5, h6⟩, (fr _ FC.rf).1, (fr _ FC.rf).2, fun a p ha => by cases ha⟩
      rw [e2]
      split <;> rfl
    | ok Ve =>
      obtain ⟨V, e⟩ := Ve
      have hV := numO_lt (T1_lt hT8) hN
      have hst : stN B n (.ok (a, p)) (fun _ => (0, nI T - 1, -1)) = .ok (a ++ [V], sk B n e) := by simp only [stN, hN]
      have ht := t1 a p rfl _ _ hst
      rw [hst] at h1
      have hval : val = nI V := by
        obtain ⟨_, hv⟩ := h1.2.2.2 _ _ rfl
        have := hv 1 (by decide)
        rw [gI_eq] at this
        rw [this]
        congr 1
        rw [List.getD_eq_getElem?_getD, List.getElem?_append_right (by omega), la]; rfl
      by_cases c : V = a.getD 0 0
      · simp only [if_pos c]
        obtain ⟨c1, -⟩ := h1
        obtain ⟨⟨p', l, -⟩, h5, h6⟩ := c1
        obtain ⟨b5, b6⟩ := b2 h5
        refine ⟨val, u1, u2, e1, by rw [if_pos (show gI (wI u1 r i (base + 1) val) r i (base + 1) = gI (wI u1 r i (base + 1) val) r i (base + 0) by rw [v0, gI_eq, hval, c]), e2]; rfl, ⟨⟨p', l.fc f2 (by decide) (by decide)⟩, show (2 : Int32) ≠ 0 by decide, b5, ?_⟩, (fr _ f2).1, (fr _ f2).2, fun a p ha => by cases ha⟩
        show gI u2 5 0 6 = nI (sk B n p)
        rw [b6, gI_r (Ne.symm hr.1), ht, hk]
      · simp only [if_neg c]
        exact ⟨val, u1, _, e1, if_neg (show ¬ gI (wI u1 r i (base + 1) val) r i (base + 1) = gI (wI u1 r i (base + 1) val) r i (base + 0) from fun q => c ((nI_eq (by omega) hF).mp (by rw [v0, gI_eq, hval] at q; exact q))), h1⟩
theorem cReadThrow {B : Nat → Int32} {n i w T p : Nat} {u : HS} (hp : CPs B n (.ok p) u) (hT : gI u 3 i 0 = nI T) (hT8 : T ≤ 8) (hw : gI u 3 i 5 = nI w) (hw24 : w < 24) : ∃ v, mX3_readThrow u i = some (wI v 3 i 5 (nI (w + 1))) ∧ NR B n 40 i (3 * w) 3 (scN B n p T 2) u v := by
  have hr : (40 : Nat) ≠ 5 ∧ (40 : Nat) ≠ 45 := by decide
  obtain ⟨x1, u1, e1, h1, -, k1⟩ := (NR.z (r := 40) (i := i) (base := 3 * w) hp).step hr (fun _ => (0, nI T - 1, -1)) 0 (nI T - 1) (fun _ _ _ => ⟨rfl, T1_lt hT8⟩)
  obtain ⟨x2, u2, u2', e2, b2, h2⟩ := h1.no hr hT8 (fun a p ha => by
    obtain ⟨a0, p0, V, g1, g2, -, -, g5, -⟩ := stN_in ha (fun _ => T1_lt hT8)
    injection g1 with g1
    injection g1 with g1 _
    rw [g2, ← g1]
    show V < 2 ^ 31
    omega) (fun a q ha => by
    obtain ⟨a0, p0, V, g1, g2, -, -, g5, e, ge, gq⟩ := stN_in ha (fun _ => T1_lt hT8)
    injection g1 with g1
    injection g1 with _ g1
    obtain ⟨⟨p', l, hs⟩, -⟩ := hp
    have hpn : p ≤ n := by rw [← hs]; exact (sk_le l.2.2.2.1).2
    rw [gq]
    exact sk_idem (numO_e (p := p0) (by omega) ge).1)
  obtain ⟨x3, u3, e3, h3, -, k3⟩ := h2.step hr (fun _ => (0, 299, -1)) 0 299 (fun _ _ _ => ⟨rfl, by decide⟩)
  have q : ∀ j, j < 3 → ck 72 (nI (3 * w) + nI j) = some (3 * w + j) := fun j hj => ck72 hw24 hj
  have q1 : ck 72 (nI (3 * w) + 1) = some (3 * w + 1) := q 1 (by decide)
  have q2 : ck 72 (nI (3 * w) + 2) = some (3 * w + 2) := q 2 (by decide)
  refine ⟨_, ?_, h3⟩
  unfold mX3_readThrow
  simp only [bd_q, hw, hT, show (nI w * 3 : Int32) = nI (3 * w) from by rw [show (nI w * 3 : Int32) = nI (w * 3) from pk_mul w 3, Nat.mul_comm]]
  rw [e1]
  simp only [ob_q, ck72_0 hw24]
  have z1 := h1.2.1.1 3 (by decide) (by decide)
  rw [z1, hT, e2]
  simp only [ob_q, q1]
  rw [b2]
  simp only [ob_q]
  rw [e3]
  simp only [ob_q, q2]
  have z3 := h3.2.1.1 3 (by decide) (by decide)
  rw [show 3 * w + (1 + 1) = 3 * w + 2 from rfl] at z3 ⊢
  rw [z3, hw, nI_1]
