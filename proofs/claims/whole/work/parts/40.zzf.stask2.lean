theorem cf9 {K : List Nat} {u v : HS} (h : FC K u v) {r : Nat} (hr : r ≠ 5) : gI v r = gI u r := h.1 r hr
-- task
set_option maxHeartbeats 2000000 in
theorem s_task (x : Int32) : Step [1] (fun u => mX8_task u x) (fun u => mX9_task u x) := by
  intro u hI
  have ⟨p, h, hv⟩ := hI
  obtain ⟨hd, hh, t1, t2, t3, t4⟩ := h.2.1
  have w09 : ∀ k, k ≠ 0 → gI (w0 u) 9 0 k = gI u 9 0 k := fun k hk => by unfold w0; rw [gI_k hk]
  cases b1 : inB x (min hd 200 + 1) with
  | false =>
    refine Step.bad hI (k := 1) (v := 0) (b := 0) (c := 1) ?_ ?_ (by decide)
    · unfold mX8_task
      simp only [jp_q, t1, min_lt x hd hh, pc2 x (min hd 200) (by omega), b1, Bool.false_eq_true, if_false, ob_q, cReq0, xq1]
    · show mX9_task u x = _
      unfold mX9_task
      simp only [bd_q, w0e, w09 1 (by decide), t2, rLess hh, ob_q, inM x (show min hd 200 < 2 ^ 31 - 1 by omega), b1, bI_f, if_true, rBad1 w00 (show (1 : Int32) ≠ 0 by decide), if_neg (show ¬ (1 : Int32) = 0 by decide)]
  | true =>
  obtain ⟨n, hn, rfl⟩ := inB_t (by omega) b1
  have hn4 : n ≤ 400 := by omega
  obtain ⟨u1, e1, f1, l1, a1, a5, a6⟩ := cOpens (u := u) hn4
  have z8 : gI u1 8 = gI u 8 := f1.1 8 (by decide)
  have hcl : ∀ R : Option (Nat × Int32 × HS), ((mX5_open u (nI n)).bind fun u105 => if gI u105 8 0 4 = 6 then some (0, -1, u105) else (ck 6 (gI u105 8 0 4)).bind fun k107 => (mX6_read u105 k107).bind fun u109 => if gI u109 5 0 5 = 0 then some (0, gI u109 8 0 4, wI u109 8 0 4 (gI u109 8 0 4 + 1)) else some (0, gI u109 5 0 5 - 10, u109)) = R → mX8_task u (nI n) = R := fun R hR => by
    rw [← hR]
    unfold mX8_task
    simp only [jp_q, t1, min_lt (nI n) hd hh, pc2 (nI n) (min hd 200) (by omega), b1, if_true, ob_q, cReq1, xqz, bd_q]
  have ct : gI u 8 0 4 = nI (pNt p) := h.1.2.1.2.1
  have rt : gI u 9 0 15 = nI (pNt p) := h.1.2.2.2.1
  have hnt := h.1.1.2.1
  -- the reference's beginning
  have hrf : ∀ (v : HS) (R : Option (Int32 × HS)), gI v 9 = gI u 9 → ((mX9_isRead (w0 v) (nI n) (if pNt p = 6 then 1 else 0)).bind fun z114 => if z114.1 = 0 then some (-1, z114.2) else (ck 6 (gI z114.2 9 0 15)).bind fun k118 => bd (wI z114.2 71 k118 0 0) fun u120 => (ck 6 (gI u120 9 0 15)).bind fun k121 => bd (wI u120 71 k121 1 0) fun u123 => (ck 6 (gI u123 9 0 15)).bind fun k124 => bd (wI u123 71 k124 2 (-1)) fun u126 => (ck 6 (gI u126 9 0 15)).bind fun k127 => bd (wI u126 71 k127 3 4) fun u129 => (ck 6 (gI u129 9 0 15)).bind fun k130 => bd (wI u129 71 k130 4 0) fun u132 => mX9_task_L122 (fun u134 => bd (wI u134 9 0 3 (gI u134 9 0 7)) fun u136 => if gI u136 9 0 6 = 0 then bd (wI u136 9 0 15 (gI u136 9 0 15 + 1)) fun u138 => some (gI u138 9 0 15 - 1, u138) else some (gI u136 9 0 6 - 10, u136)) FU u132) = R → mX9_task v (nI n) = R := fun v R hv9 hR => by
    rw [← hR]
    unfold mX9_task
    have y1 : gI (w0 v) 9 0 1 = nI hd := by unfold w0; rw [gI_k (by decide), hv9, t2]
    have y15 : gI (w0 v) 9 0 15 = nI (pNt p) := by unfold w0; rw [gI_k (by decide), hv9, rt]
    simp only [bd_q, w0e, y1, rLess hh, ob_q, inM (nI n) (show min hd 200 < 2 ^ 31 - 1 by omega), b1, bI_t, if_neg (show ¬ (1 : Int32) = 0 by decide), rBad0 w00 (show (1 : Int32) ≠ 0 by decide), if_true, y15, jp_q, show ck 5 0 = some 0 from by decide, show ck 5 1 = some 1 from by decide, show ck 5 2 = some 2 from by decide, show ck 5 3 = some 3 from by decide, show ck 5 4 = some 4 from by decide]
    have : (if nI (pNt p) = 6 then some 1 else some 0 : Option Int32) = some (if pNt p = 6 then 1 else 0) := by
      by_cases q : pNt p = 6
      · rw [if_pos q, q]; rfl
      · rw [if_neg q, if_neg (show ¬ nI (pNt p) = 6 from fun y => q ((nI_eq (b := 6) (by omega) (by decide)).mp y))]
    rw [this]
    simp only [ob_q]
  have w0e' : ∀ v : HS, ∀ r, r ≠ 9 → gI (w0 v) r = gI v r := fun v r hr => by unfold w0; rw [gI_r hr]
  by_cases c6 : pNt p = 6
  · refine Step.ok (u1 := u1) (u2 := wI (wI (w0 u1) 9 0 1 0) 9 0 3 (-1)) (v := -1) (hcl _ ?_) (hrf u1 _ (f1.1 9 (by decide)) ?_) ?_ ?_
    · rw [e1]; simp only [ob_q, z8, ct, c6]; rfl
    · rw [if_pos c6]; unfold mX9_isRead; simp only [bd_q, if_neg (show ¬ (1 : Int32) = 0 by decide), ob_q, if_true]
    · rw [gI_k (by decide), gI_k (by decide), w00]
    · have E : ∀ r, r ≠ 5 → r ≠ 9 → gI (wI (wI (w0 u1) 9 0 1 0) 9 0 3 (-1)) r = gI u r := fun r q5 q9 => by rw [gI_r q9, gI_r q9, w0e' u1 r q9, f1.1 r q5]
      have E9 : ∀ k, k ≠ 0 → k ≠ 1 → k ≠ 3 → gI (wI (wI (w0 u1) 9 0 1 0) 9 0 3 (-1)) 9 0 k = gI u 9 0 k := fun k q0 q1 q3 => by rw [gI_k q3, gI_k q1]; unfold w0; rw [gI_k q0, f1.1 9 (by decide)]
      have E5 : gI (wI (wI (w0 u1) 9 0 1 0) 9 0 3 (-1)) 5 = gI u1 5 := by rw [gI_r (by decide), gI_r (by decide), w0e' u1 5 (by decide)]
      have hR : gR (wI (wI (w0 u1) 9 0 1 0) 9 0 3 (-1)) = gR u := f1.2.2
      refine TQ.same h hv ⟨fun r hr => E r (by omega) (by omega), fun k hk => E9 k (by omega) (by omega) (by omega), by rw [E5]; exact a1, by rw [gI_k (by decide), gI_eq], by rw [E5, a6, gI_eq]⟩ (E 8 (by decide) (by decide)) (fun k hk => E9 k (by omega) (by omega) (by omega)) ?_ ?_ ?_
      · exact fun s _ => ⟨fun r hr => by rw [E r (by omega) (by omega)], by rw [hR]; exact ⟨rfl, rfl⟩, by rw [E 66 (by decide) (by decide)], by rw [E 67 (by decide) (by decide)], fun k _ => by rw [E 65 (by decide) (by decide)], fun k _ => by rw [E 69 (by decide) (by decide)]⟩
      · exact fun t _ => ⟨by rw [E 6 (by decide) (by decide)], by rw [E 71 (by decide) (by decide)]⟩
      · exact fun q _ => ⟨fun r hr => by rw [E r (by omega) (by omega)], by rw [E 73 (by decide) (by decide)], by rw [E 76 (by decide) (by decide)], fun k _ => by rw [E 75 (by decide) (by decide)]⟩
  · have ht6 : pNt p < 6 := by omega
    obtain ⟨u2, e2, ⟨f2, i2, g2, r2⟩, m2⟩ := cTaskR (t := pNt p) l1 a5
    have ct1 : gI u1 8 0 4 = nI (pNt p) := by rw [z8, ct]
    have ct2 : gI u2 8 0 4 = nI (pNt p) := by rw [f2 8 (by decide) (by decide), ct1]
    have n6 : ¬ nI (pNt p) = 6 := fun y => c6 ((nI_eq (b := 6) (by omega) (by decide)).mp y)
    -- the class's store, but for its count
    have C1 : ∀ r, r ≠ 5 → r ≠ 6 → gI u2 r = gI u r := fun r q5 q6 => (f2 r q5 q6).trans (f1.1 r q5)
    have C6 : ∀ i, i ≠ pNt p → gI u2 6 i = gI u 6 i := fun i hi => by rw [i2 i hi, f1.1 6 (by decide)]
    have C51 : gI u2 5 0 1 = 0 := by rw [g2 1 (by decide)]; exact a1
    -- the reference, from any store that agrees
    have hrr : ∀ v : HS, (∀ r, r ≠ 5 → r ≠ 6 → r ≠ 8 → gI v r = gI u r) → gR v = gR u → ∃ u4, mX9_task v (nI n) = (bd (wI u4 9 0 3 (gI u4 9 0 7)) fun u136 => if gI u136 9 0 6 = 0 then bd (wI u136 9 0 15 (gI u136 9 0 15 + 1)) fun u138 => some (gI u138 9 0 15 - 1, u138) else some (gI u136 9 0 6 - 10, u136)) ∧ (∀ r, r ≠ 9 → r ≠ 71 → gI u4 r = gI v r) ∧ (∀ k, 11 ≤ k → gI u4 9 0 k = gI u 9 0 k) ∧ gI u4 9 0 0 = 0 ∧ gI u4 9 0 1 = 0 ∧ (∀ i, i ≠ pNt p → gI u4 71 i = gI u 71 i) ∧ gR u4 = gR u ∧ match tkS (gI u 45 0) n 17 0 0 tk0 with | .ok T' => gI u4 9 0 6 = 0 ∧ gI u4 9 0 7 = -1 ∧ ∀ c, c < 5 → gI u4 71 (pNt p) c = T' c | .error (κ, q) => gI u4 9 0 6 = κ ∧ gI u4 9 0 7 = nI q := fun v hv1 hv2 => by
      obtain ⟨u3, e3, f3, l3, b1', b3', b6', b7', b8', b9', b10', b5'⟩ := tOpens (u := w0 v) (B := gI u 45 0) hn4 (fun k hk => by rw [w0e' v 60 (by decide), hv1 60 (by decide) (by decide) (by decide)]; exact (t3 k (by omega)).symm)
      have k15 : gI u3 9 0 15 = nI (pNt p) := by rw [f3.2.1 15 (by decide)]; unfold w0; rw [gI_k (by decide), hv1 9 (by decide) (by decide) (by decide), rt]
      obtain ⟨u4, e4, f4, i4, m4⟩ := tTaskR (fun u134 => bd (wI u134 9 0 3 (gI u134 9 0 7)) fun u136 => if gI u136 9 0 6 = 0 then bd (wI u136 9 0 15 (gI u136 9 0 15 + 1)) fun u138 => some (gI u138 9 0 15 - 1, u138) else some (gI u136 9 0 6 - 10, u136)) l3 (sk_idem (Nat.zero_le n)) b6' b9' k15 ht6
      refine ⟨u4, hrf v _ (hv1 9 (by decide) (by decide) (by decide)) ?_, fun r q9 q71 => ?_, fun k hk => ?_, ?_, ?_, fun i hi => ?_, ?_, ?_⟩
      · rw [if_neg c6, e3]
        have k71 : ∀ (σ : HS) (i k : Nat) (x : Int32), gI (wI σ 71 i k x) 9 = gI σ 9 := fun _ _ _ _ => gI_r (by decide)
        simp only [ob_q, if_neg (show ¬ (1 : Int32) = 0 by decide), bd_q, k71, k15, ck_nI ht6 (show 6 < 2 ^ 31 by decide)]
        exact e4
      · rw [f4.1 r (by simpa using q71) q9, f3.1 r (by simp) q9, w0e' v r q9]
      · rw [f4.2.1 k (by simp; omega), f3.2.1 k (by simp; omega)]; unfold w0; rw [gI_k (by omega), hv1 9 (by decide) (by decide) (by decide)]
      · rw [f4.2.1 0 (by decide), f3.2.1 0 (by decide), w00]
      · rw [f4.2.1 1 (by decide), b1']
      · rw [i4 i hi, f3.1 71 (by simp) (by decide), w0e' v 71 (by decide), hv1 71 (by decide) (by decide) (by decide)]
      · rw [f4.2.2.2, f3.2.2.2]; exact hv2
      · rw [tkS_sk (Nat.zero_le n)] at m4
        rw [b7'] at m4
        exact m4
    cases hS : tkS (gI u 45 0) n 17 0 0 tk0 with
    | error eq =>
      obtain ⟨κ, q⟩ := eq
      rw [hS] at m2
      obtain ⟨u4, e4, E1, E9, E0, E91, E71, ER, m4⟩ := hrr u2 (fun r q5 q6 _ => C1 r q5 q6) (r2.trans f1.2.2)
      rw [hS] at m4
      have hk0 : κ ≠ 0 := tkS_err _ _ _ _ _ _ hS
      refine Step.ok (u1 := u2) (u2 := wI u4 9 0 3 (gI u4 9 0 7)) (v := κ - 10) (hcl _ ?_) ?_ ?_ ?_
      · rw [e1]; simp only [ob_q, ct1, if_neg n6, ck_nI ht6 (show 6 < 2 ^ 31 by decide), e2, m2.1, if_neg hk0]
      · show mX9_task u2 (nI n) = _
        rw [e4]; simp only [bd_q, gI_k (show 6 ≠ 3 by decide), m4.1, if_neg hk0]
      · rw [gI_k (by decide), E0]
      · have V : ∀ r, r ≠ 9 → gI (wI u4 9 0 3 (gI u4 9 0 7)) r = gI u4 r := fun r q9 => gI_r q9
        have V2 : ∀ r, r ≠ 5 → r ≠ 6 → r ≠ 9 → r ≠ 71 → gI (wI u4 9 0 3 (gI u4 9 0 7)) r = gI u r := fun r a b c d => by rw [V r c, E1 r c d, C1 r a b]
        have hR : gR (wI u4 9 0 3 (gI u4 9 0 7)) = gR u := ER
        refine TQ.same h hv ⟨fun r hr => V2 r (by omega) (by omega) (by omega) (by omega), fun k hk => by rw [gI_k (by omega)]; exact E9 k (by omega), by rw [V 5 (by decide), E1 5 (by decide) (by decide)]; exact C51, by rw [gI_k (by decide)]; exact E91, by rw [V 5 (by decide), E1 5 (by decide) (by decide), gI_eq, m4.2]; exact m2.2⟩ (V2 8 (by decide) (by decide) (by decide) (by decide)) (fun k hk => by rw [gI_k (by omega)]; exact E9 k (by omega)) ?_ ?_ ?_
        · exact fun s _ => ⟨fun r hr => by rw [V2 r (by omega) (by omega) (by omega) (by omega)], by rw [hR]; exact ⟨rfl, rfl⟩, by rw [V2 66 (by decide) (by decide) (by decide) (by decide)], by rw [V2 67 (by decide) (by decide) (by decide) (by decide)], fun k _ => by rw [V2 65 (by decide) (by decide) (by decide) (by decide)], fun k _ => by rw [V2 69 (by decide) (by decide) (by decide) (by decide)]⟩
        · exact fun t ht => ⟨by rw [V 6 (by decide), E1 6 (by decide) (by decide), C6 t (by omega)], by rw [V 71 (by decide), E71 t (by omega)]⟩
        · exact fun q _ => ⟨fun r hr => by rw [V2 r (by omega) (by omega) (by omega) (by omega)], by rw [V2 73 (by decide) (by decide) (by decide) (by decide)], by rw [V2 76 (by decide) (by decide) (by decide) (by decide)], fun k _ => by rw [V2 75 (by decide) (by decide) (by decide) (by decide)]⟩
    | ok T =>
      rw [hS] at m2
      obtain ⟨k5, k6, kT⟩ := m2
      obtain ⟨u3, hu3⟩ : ∃ u3, u3 = wI u2 8 0 4 (nI (pNt p + 1)) := ⟨_, rfl⟩
      have D1 : ∀ r, r ≠ 8 → gI u3 r = gI u2 r := fun r q8 => by rw [hu3]; exact gI_r q8
      obtain ⟨u4, e4, E1, E9, E0, E91, E71, ER, m4⟩ := hrr u3 (fun r q5 q6 q8 => by rw [D1 r q8]; exact C1 r q5 q6) (by rw [hu3]; exact r2.trans f1.2.2)
      rw [hS] at m4
      obtain ⟨m6, m7, mT⟩ := m4
      have k15 : gI (wI u4 9 0 3 (gI u4 9 0 7)) 9 0 15 = nI (pNt p) := by rw [gI_k (by decide), E9 15 (by decide), rt]
      refine Step.ok (u1 := u3) (u2 := wI (wI u4 9 0 3 (gI u4 9 0 7)) 9 0 15 (nI (pNt p + 1))) (v := nI (pNt p)) (hcl _ ?_) ?_ ?_ ?_
      · rw [e1]; simp only [ob_q, ct1, if_neg n6, ck_nI ht6 (show 6 < 2 ^ 31 by decide), e2, k5, if_true, ct2, nI_1, hu3]
      · show mX9_task u3 (nI n) = _
        rw [e4]; simp only [bd_q, gI_k (show 6 ≠ 3 by decide), m6, if_true, k15, nI_1, gI_eq]
        rw [show nI (pNt p + 1) - 1 = nI (pNt p) from by rw [← nI_1, Int32.add_sub_cancel]]
      · rw [gI_k (by decide), gI_k (by decide), E0]
      · obtain ⟨v, hv'⟩ : ∃ v, v = wI (wI u4 9 0 3 (gI u4 9 0 7)) 9 0 15 (nI (pNt p + 1)) := ⟨_, rfl⟩
        rw [← hv']
        have V : ∀ r, r ≠ 9 → gI v r = gI u4 r := fun r q9 => by rw [hv', gI_r q9, gI_r q9]
        have V2 : ∀ r, r ≠ 5 → r ≠ 6 → r ≠ 8 → r ≠ 9 → r ≠ 71 → gI v r = gI u r := fun r a b e c d => by rw [V r c, E1 r c d, D1 r e, C1 r a b]
        have V9 : ∀ k, k ≠ 3 → k ≠ 15 → gI v 9 0 k = gI u4 9 0 k := fun k a b => by rw [hv', gI_k b, gI_k a]
        have V5 : gI v 5 = gI u2 5 := by rw [V 5 (by decide), E1 5 (by decide) (by decide), D1 5 (by decide)]
        have hR : gR v = gR u := by rw [hv']; exact ER
        have tq : TQ u v := ⟨fun r hr => V2 r (by omega) (by omega) (by omega) (by omega) (by omega), fun k hk => by rw [V9 k (by omega) (by omega)]; exact E9 k (by omega), by rw [V5]; exact C51, by rw [V9 1 (by decide) (by decide)]; exact E91, by rw [V5, k6, a6, hv', gI_k (by decide), gI_eq, m7]⟩
        have V8 : ∀ k, k ≠ 4 → gI v 8 0 k = gI u 8 0 k := fun k hk => by rw [V 8 (by decide), E1 8 (by decide) (by decide), hu3, gI_k hk, C1 8 (by decide) (by decide)]
        have hSs : eqS (pNs p) u v := fun s _ => ⟨fun r hr => by rw [V2 r (by omega) (by omega) (by omega) (by omega) (by omega)], by rw [hR]; exact ⟨rfl, rfl⟩, by rw [V2 66 (by decide) (by decide) (by decide) (by decide) (by decide)], by rw [V2 67 (by decide) (by decide) (by decide) (by decide) (by decide)], fun k _ => by rw [V2 65 (by decide) (by decide) (by decide) (by decide) (by decide)], fun k _ => by rw [V2 69 (by decide) (by decide) (by decide) (by decide) (by decide)]⟩
        have hLl : eqL (pNl p) u v := fun q _ => ⟨fun r hr => by rw [V2 r (by omega) (by omega) (by omega) (by omega) (by omega)], by rw [V2 73 (by decide) (by decide) (by decide) (by decide) (by decide)], by rw [V2 76 (by decide) (by decide) (by decide) (by decide) (by decide)], fun k _ => by rw [V2 75 (by decide) (by decide) (by decide) (by decide) (by decide)]⟩
        refine IV.grow (p' := ((pNs p, pNt p + 1, pNl p, pNi p), p.2.1, p.2.2.1, (fun t j => if t = pNt p then gI v 71 (pNt p) j else pT p t j), p.2.2.2.2)) h hv (Nat.le_refl _) (Nat.le_succ _) (Nat.le_refl _) rfl rfl rfl rfl (fun _ _ => rfl) (fun t ht => ?_) (fun _ _ => rfl) ?_ (tq.ta h) (fun s hs' => hSs.c hs' (h.2.2.1 s hs').1 (h.2.2.1 s hs').2) (fun t ht => ?_) (fun q hq' => ?_) (fun r hr => tq.1 r (by omega)) (fun k hk => tq.2.1 k (by omega))
        · funext j
          show (if t = pNt p then _ else _) = _
          rw [if_neg (by omega)]
        · obtain ⟨⟨x1, x2, x3, x4⟩, ⟨y1, y2, y3, y4⟩, z1, z2, z3, z4⟩ := h.1
          refine ⟨⟨x1, show pNt p + 1 ≤ 6 by omega, x3, x4⟩, ⟨by rw [V8 2 (by decide)]; exact y1, ?_, by rw [V8 6 (by decide)]; exact y3, by rw [V8 10 (by decide)]; exact y4⟩, by rw [V9 14 (by decide) (by decide), E9 14 (by decide)]; exact z1, by rw [hv', gI_eq]; rfl, by rw [V9 16 (by decide) (by decide), E9 16 (by decide)]; exact z3, by rw [V9 32 (by decide) (by decide), E9 32 (by decide)]; exact z4⟩
          rw [V 8 (by decide), E1 8 (by decide) (by decide), hu3, gI_eq]; rfl
        · have ht' : t < pNt p + 1 := ht
          show (∀ j, gI v 71 t j = if t = pNt p then gI v 71 (pNt p) j else pT p t j) ∧ ∀ j, j < 5 → gI v 6 t j = if t = pNt p then gI v 71 (pNt p) j else pT p t j
          by_cases c : t = pNt p
          · refine ⟨fun j => by rw [if_pos c, c], fun j hj => ?_⟩
            rw [if_pos c, c, V 6 (by decide), E1 6 (by decide) (by decide), D1 6 (by decide), kT j hj, V 71 (by decide), mT j hj]
          · obtain ⟨o1, o2⟩ := h.2.2.2.1 t (by omega)
            refine ⟨fun j => ?_, fun j hj => ?_⟩
            · rw [if_neg c, V 71 (by decide), E71 t c]; exact o1 j
            · rw [if_neg c, V 6 (by decide), E1 6 (by decide) (by decide), D1 6 (by decide), C6 t c]; exact o2 j hj
        · obtain ⟨a, b⟩ := hLl.c hq' (h.2.2.2.2.1 q hq').1 (h.2.2.2.2.1 q hq').2.1
          exact ⟨a, b, (h.2.2.2.2.1 q hq').2.2⟩
