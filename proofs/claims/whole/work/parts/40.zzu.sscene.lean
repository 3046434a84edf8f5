theorem scS_err {st : Nat → Nat → Int32} {B : Nat → Int32} {n : Nat} : ∀ (d p : Nat) (c : SV) (κ : Int32) (q : Nat), scS st B n d p c = .error (κ, q) → κ ≠ 0 := by
  intro d
  induction d with
  | zero => intro p c κ q h; cases h
  | succ d ih =>
    intro p c κ q h
    unfold scS at h
    cases hs : wdO 16 B n p with
    | none =>
      rw [hs] at h
      simp only at h
      split at h
      · cases h
      · injection h with h; injection h with h; rw [← h]; decide
    | some j =>
      rw [hs] at h
      simp only at h
      split at h
      · split at h
        · injection h with h; injection h with h; rw [← h]; decide
        · cases hN : scN B n (sk B n (wsE B n p)) (sT c) j with
          | error e =>
            obtain ⟨κ', q'⟩ := e
            rw [hN] at h
            injection h with h; injection h with h h2; rw [← h]
            have hx : ∀ (l : List (List Nat → Int32 × Int32 × Int32)) (s : PE (List Nat × Nat)), (∀ e, s = .error e → e.1 ≠ 0) → ∀ e, l.foldl (stN B n) s = .error e → e.1 ≠ 0 := by
              intro l
              induction l with
              | nil => intro s hs e he; exact hs e he
              | cons f l ih =>
                intro s hs e he
                refine ih _ ?_ e he
                intro e' he'
                cases s with
                | error e0 => injection he' with he'; rw [← he']; exact hs e0 rfl
                | ok ap =>
                  obtain ⟨a, p⟩ := ap
                  simp only [stN] at he'
                  cases hq : numO 100000 B n p (f a).1 (f a).2.1 (f a).2.2 with
                  | error e1 => rw [hq] at he'; injection he' with he'; rw [← he']; exact numO_err hq
                  | ok Ve => rw [hq] at he'; cases he'
            exact hx _ _ (fun e he => by cases he) _ hN
          | ok aq =>
            obtain ⟨a, q'⟩ := aq
            rw [hN] at h
            simp only at h
            split at h
            · exact ih _ _ _ _ h
            · injection h with h; injection h with h; rw [← h]; decide
      · injection h with h; injection h with h; rw [← h]; decide
-- scene
set_option maxHeartbeats 2000000 in
theorem s_scene (x : Int32) : Step [1] (fun u => mX8_scene u x) (fun u => mX9_scene u x) := by
  intro u hI
  have ⟨p, h, hv⟩ := hI
  obtain ⟨hd, hh, t1, t2, t3, t4⟩ := h.2.1
  have w09 : ∀ k, k ≠ 0 → gI (w0 u) 9 0 k = gI u 9 0 k := fun k hk => by unfold w0; rw [gI_k hk]
  cases b1 : inB x (hd + 1) with
  | false =>
    refine Step.bad hI (k := 1) (v := 0) (b := 0) (c := 1) ?_ ?_ (by decide)
    · unfold mX8_scene
      simp only [jp_q, t1, pc2 x hd (by omega), b1, Bool.false_eq_true, if_false, ob_q, cReq0, xq1]
    · show mX9_scene u x = _
      unfold mX9_scene
      simp only [bd_q, w0e, w09 1 (by decide), t2, ob_q, inM x (show hd < 2 ^ 31 - 1 by omega), b1, bI_f, if_true, rBad1 w00 (show (1 : Int32) ≠ 0 by decide), if_neg (show ¬ (1 : Int32) = 0 by decide)]
  | true =>
  obtain ⟨n, hn, rfl⟩ := inB_t (by omega) b1
  have hn4 : n ≤ 400 := by omega
  obtain ⟨u1, e1, f1, l1, a1, a5, a6⟩ := cOpens (u := u) hn4
  have z8 : gI u1 8 = gI u 8 := f1.1 8 (by decide)
  have ct : gI u 8 0 2 = nI (pNs p) := h.1.2.1.1
  have rt : gI u 9 0 14 = nI (pNs p) := h.1.2.2.1
  have hns := h.1.1.1
  have hcl : ∀ R : Option (Nat × Int32 × HS), ((mX5_open u (nI n)).bind fun u105 => if gI u105 8 0 2 = 6 then some (0, -1, u105) else (ck 6 (gI u105 8 0 2)).bind fun k107 => (mX3_read u105 k107).bind fun u109 => if gI u109 5 0 5 = 0 then (mX3_settle u109 k107).bind fun u112 => some (0, gI u112 8 0 2, wI u112 8 0 2 (gI u112 8 0 2 + 1)) else some (0, gI u109 5 0 5 - 10, u109)) = R → mX8_scene u (nI n) = R := fun R hR => by
    rw [← hR]
    unfold mX8_scene
    simp only [jp_q, t1, pc2 (nI n) hd (by omega), b1, if_true, ob_q, cReq1, xqz, bd_q]
  have hrf : ∀ (v : HS) (R : Option (Int32 × HS)), gI v 9 = gI u 9 → ((mX9_isRead (w0 v) (nI n) (if pNs p = 6 then 1 else 0)).bind fun z112 => if z112.1 = 0 then some (-1, z112.2) else mX9_scene_L56 (fun u117 => if gI (wI u117 9 0 3 (gI u117 9 0 7)) 9 0 6 = 0 then (ck 6 (gI (wI u117 9 0 3 (gI u117 9 0 7)) 9 0 14)).bind fun k121 => bd (wI (wI u117 9 0 3 (gI u117 9 0 7)) 66 0 k121 (gI (wI u117 9 0 3 (gI u117 9 0 7)) 9 0 9)) fun u122 => (ck 6 (gI u122 9 0 14)).bind fun k123 => mX9_scene_L133 (fun u127 => some (gI (wI u127 9 0 14 (gI u127 9 0 14 + 1)) 9 0 14 - 1, wI u127 9 0 14 (gI u127 9 0 14 + 1))) FU 0 (wI u122 67 0 k123 0) else some (gI (wI u117 9 0 3 (gI u117 9 0 7)) 9 0 6 - 10, wI u117 9 0 3 (gI u117 9 0 7))) FU z112.2) = R → mX9_scene v (nI n) = R := fun v R hv9 hR => by
    rw [← hR]
    unfold mX9_scene
    have y1 : gI (w0 v) 9 0 1 = nI hd := by unfold w0; rw [gI_k (by decide), hv9, t2]
    have y15 : gI (w0 v) 9 0 14 = nI (pNs p) := by unfold w0; rw [gI_k (by decide), hv9, rt]
    simp only [bd_q, w0e, y1, ob_q, inM (nI n) (show hd < 2 ^ 31 - 1 by omega), b1, bI_t, if_neg (show ¬ (1 : Int32) = 0 by decide), rBad0 w00 (show (1 : Int32) ≠ 0 by decide), if_true, y15, jp_q]
    have : (if nI (pNs p) = 6 then some 1 else some 0 : Option Int32) = some (if pNs p = 6 then 1 else 0) := by
      by_cases q : pNs p = 6
      · rw [if_pos q, q]; rfl
      · rw [if_neg q, if_neg (show ¬ nI (pNs p) = 6 from fun y => q ((nI_eq (b := 6) (by omega) (by decide)).mp y))]
    rw [this]
    simp only [ob_q]
  have w0e' : ∀ v : HS, ∀ r, r ≠ 9 → gI (w0 v) r = gI v r := fun v r hr => by unfold w0; rw [gI_r hr]
  by_cases c6 : pNs p = 6
  · refine Step.ok (u1 := u1) (u2 := wI (wI (w0 u1) 9 0 1 0) 9 0 3 (-1)) (v := -1) (hcl _ ?_) (hrf u1 _ (f1.1 9 (by decide)) ?_) ?_ ?_
    · rw [e1]; simp only [ob_q, z8, ct, c6]; rfl
    · rw [if_pos c6]; unfold mX9_isRead; simp only [bd_q, if_neg (show ¬ (1 : Int32) = 0 by decide), ob_q, if_true]
    · rw [gI_k (by decide), gI_k (by decide), w00]
    · have E : ∀ r, r ≠ 5 → r ≠ 9 → gI (wI (wI (w0 u1) 9 0 1 0) 9 0 3 (-1)) r = gI u r := fun r q5 q9 => by rw [gI_r q9, gI_r q9, w0e' u1 r q9, f1.1 r q5]
      have E9 : ∀ k, k ≠ 0 → k ≠ 1 → k ≠ 3 → gI (wI (wI (w0 u1) 9 0 1 0) 9 0 3 (-1)) 9 0 k = gI u 9 0 k := fun k q0 q1 q3 => by rw [gI_k q3, gI_k q1]; unfold w0; rw [gI_k q0, f1.1 9 (by decide)]
      have E5 : gI (wI (wI (w0 u1) 9 0 1 0) 9 0 3 (-1)) 5 = gI u1 5 := by rw [gI_r (by decide), gI_r (by decide), w0e' u1 5 (by decide)]
      have hR : gR (wI (wI (w0 u1) 9 0 1 0) 9 0 3 (-1)) = gR u := f1.2.2
      refine TQ.same h hv ⟨fun r hr => E r (by omega) (by omega), fun k hk => E9 k (by omega) (by omega) (by omega), by rw [E5]; exact a1, by rw [gI_k (by decide), gI_eq], by rw [E5, a6, gI_eq]⟩ (E 8 (by decide) (by decide)) (fun k hk => E9 k (by omega) (by omega) (by omega)) ?_ ?_ ?_
      · exact fun s _ => ⟨fun r hr => by rw [E r (by omega) (by omega)], by rw [hR]; exact ⟨rfl, rfl⟩, by rw [E 66 (by decide) (by decide)], by rw [E 67 (by decide) (by decide)], fun k _ => by rw [E 65 (by decide) (by decide)], fun k _ => by rw [E 69 (by decide) (by decide)]⟩
      · exact fun t _ => ⟨by rw [E 6 (by decide) (by decide)], by rw [E 71 (by decide) (by decide)]⟩
      · exact fun q _ => ⟨fun r hr => by rw [E r (by omega) (by omega)], by rw [E 73 (by decide) (by decide)], by rw [E 76 (by decide) (by decide)], fun k _ => by rw [E 75 (by decide) (by decide)]⟩
  · have hs6 : pNs p < 6 := by omega
    obtain ⟨g, hg⟩ : ∃ g : Nat → Nat → Int32, g = fun k j => gI u 65 (24 * pNs p + k) j := ⟨_, rfl⟩
    obtain ⟨g2, hg2⟩ : ∃ g2 : Nat → Nat → Int32, g2 = fun t j => gI u 69 (8 * pNs p + t) j := ⟨_, rfl⟩
    obtain ⟨st, hst⟩ : ∃ st : Nat → Nat → Int32, st = fun k j => if j < 8 then gI u 63 k j else g k j := ⟨_, rfl⟩
    obtain ⟨c0, hc0⟩ : ∃ c0 : SV, c0 = (0, g, 0, g2) := ⟨_, rfl⟩
    have c0n : sN c0 = 0 ∧ sT c0 = 0 := by rw [hc0]; exact ⟨rfl, rfl⟩
    have sth0 : STh c0 := ⟨by rw [c0n.1, c0n.2]; rfl, fun k hk => by rw [c0n.1] at hk; exact absurd hk (Nat.not_lt_zero k)⟩
    have sxt0 : SXt g g2 c0 := by rw [hc0]; exact ⟨fun _ _ _ => rfl, fun _ _ _ => rfl⟩
    have hst8 : ∀ k x, 8 ≤ x → st k x = g k x := fun k x hx => by rw [hst]; exact if_neg (by omega)
    obtain ⟨u2, e2, f2, m2⟩ := cSceneR (i := pNs p) st c0 c0n l1 a5 a6
    have ct1 : gI u1 8 0 2 = nI (pNs p) := by rw [z8, ct]
    have ct2 : gI u2 8 0 2 = nI (pNs p) := by rw [f2.1 8 (by decide) (by decide) (by decide), ct1]
    have n6 : ¬ nI (pNs p) = 6 := fun y => c6 ((nI_eq (b := 6) (by omega) (by decide)).mp y)
    have C1 : ∀ r, r ≠ 3 → r ≠ 5 → (r < 37 ∨ 41 < r) → gI u2 r = gI u r := fun r q3 q5 q => (f2.1 r q3 q5 q).trans (f1.1 r q5)
    have C2 : ∀ r k, (r = 3 ∨ (37 ≤ r ∧ r ≤ 41)) → k ≠ pNs p → gI u2 r k = gI u r k := fun r k q hk => by rw [f2.2.1 r k q hk, f1.1 r (by omega)]
    have C51 : gI u2 5 0 1 = 0 := by rw [f2.2.2.1 1 (by decide)]; exact a1
    have C3 : gR u2 = gR u := f2.2.2.2.trans f1.2.2
    -- the reference, from any store that agrees
    have hrr : ∀ v : HS, gI v 9 = gI u 9 → gI v 60 = gI u 60 → gI v 63 = gI u 63 → ∃ u4, (∀ R, (if gI (wI u4 9 0 3 (gI u4 9 0 7)) 9 0 6 = 0 then (ck 6 (gI (wI u4 9 0 3 (gI u4 9 0 7)) 9 0 14)).bind fun k121 => bd (wI (wI u4 9 0 3 (gI u4 9 0 7)) 66 0 k121 (gI (wI u4 9 0 3 (gI u4 9 0 7)) 9 0 9)) fun u122 => (ck 6 (gI u122 9 0 14)).bind fun k123 => mX9_scene_L133 (fun u127 => some (gI (wI u127 9 0 14 (gI u127 9 0 14 + 1)) 9 0 14 - 1, wI u127 9 0 14 (gI u127 9 0 14 + 1))) FU 0 (wI u122 67 0 k123 0) else some (gI (wI u4 9 0 3 (gI u4 9 0 7)) 9 0 6 - 10, wI u4 9 0 3 (gI u4 9 0 7))) = R → mX9_scene v (nI n) = R) ∧ (∀ r, r ≠ 9 → r ≠ 63 → gI u4 r = gI v r) ∧ (∀ k, 11 ≤ k → gI u4 9 0 k = gI u 9 0 k) ∧ gI u4 9 0 0 = 0 ∧ gI u4 9 0 1 = 0 ∧ gR u4 = gR v ∧ match scS st (gI u 45 0) n 25 (sk (gI u 45 0) n 0) c0 with | .ok c' => gI u4 9 0 6 = 0 ∧ gI u4 9 0 7 = -1 ∧ RW st u4 c' | .error (κ, q) => gI u4 9 0 6 = κ ∧ gI u4 9 0 7 = nI q := fun v hv9 hv60 hv63 => by
      obtain ⟨u3, e3, f3, l3, b1', b3', b6', b7', b8', b9', b10', b5'⟩ := tOpens (u := w0 v) (B := gI u 45 0) hn4 (fun k hk => by rw [w0e' v 60 (by decide), hv60]; exact (t3 k (by omega)).symm)
      have R3 : RW st u3 c0 := by
        refine ⟨fun k x hx => ?_, by rw [b9', c0n.1]; rfl, by rw [b10', c0n.2]; rfl⟩
        rw [c0n.1, if_neg (Nat.not_lt_zero k), f3.1 63 (by simp) (by decide), w0e' v 63 (by decide), hv63, hst]
        exact (if_pos hx).symm
      obtain ⟨u4, e4, f4, m4⟩ := tSceneL (w := fun u117 => if gI (wI u117 9 0 3 (gI u117 9 0 7)) 9 0 6 = 0 then (ck 6 (gI (wI u117 9 0 3 (gI u117 9 0 7)) 9 0 14)).bind fun k121 => bd (wI (wI u117 9 0 3 (gI u117 9 0 7)) 66 0 k121 (gI (wI u117 9 0 3 (gI u117 9 0 7)) 9 0 9)) fun u122 => (ck 6 (gI u122 9 0 14)).bind fun k123 => mX9_scene_L133 (fun u127 => some (gI (wI u127 9 0 14 (gI u127 9 0 14 + 1)) 9 0 14 - 1, wI u127 9 0 14 (gI u127 9 0 14 + 1))) FU 0 (wI u122 67 0 k123 0) else some (gI (wI u117 9 0 3 (gI u117 9 0 7)) 9 0 6 - 10, wI u117 9 0 3 (gI u117 9 0 7))) st 25 FU _ u3 c0 (by rw [c0n.1]) (FU_lt (by decide)) l3 (sk_idem (Nat.zero_le n)) b6' b7' R3 (by omega) (by omega)
      refine ⟨u4, fun R hR => hrf v R hv9 ?_, fun r q9 q63 => ?_, fun k hk => ?_, ?_, ?_, ?_, m4⟩
      · rw [if_neg c6, e3]
        simp only [ob_q, if_neg (show ¬ (1 : Int32) = 0 by decide)]
        rw [e4]
        exact hR
      · rw [f4.1 r (by simpa using q63) q9, f3.1 r (by simp) q9, w0e' v r q9]
      · rw [f4.2.1 k (by simp; omega), f3.2.1 k (by simp; omega)]; unfold w0; rw [gI_k (by omega), hv9]
      · rw [f4.2.1 0 (by decide), f3.2.1 0 (by decide), w00]
      · rw [f4.2.1 1 (by decide), b1']
      · rw [f4.2.2.2, f3.2.2.2]; rfl
    cases hS : scS st (gI u 45 0) n 25 (sk (gI u 45 0) n 0) c0 with
    | error eq =>
      obtain ⟨κ, q⟩ := eq
      rw [hS] at m2
      obtain ⟨hk0, m5, m6⟩ := m2
      obtain ⟨u4, e4, E1, E9, E0, E91, ER, m4⟩ := hrr u2 (C1 9 (by decide) (by decide) (by decide)) (C1 60 (by decide) (by decide) (by decide)) (C1 63 (by decide) (by decide) (by decide))
      rw [hS] at m4
      refine Step.ok (u1 := u2) (u2 := wI u4 9 0 3 (gI u4 9 0 7)) (v := κ - 10) (hcl _ ?_) (e4 _ ?_) ?_ ?_
      · rw [e1]; simp only [ob_q, ct1, if_neg n6, ck_nI hs6 (show 6 < 2 ^ 31 by decide), e2, m5, if_neg hk0]
      · simp only [gI_k (show 6 ≠ 3 by decide), m4.1, if_neg hk0]
      · rw [gI_k (by decide), E0]
      · have V : ∀ r, r ≠ 9 → gI (wI u4 9 0 3 (gI u4 9 0 7)) r = gI u4 r := fun r q9 => gI_r q9
        have V2 : ∀ r, r ≠ 9 → r ≠ 63 → gI (wI u4 9 0 3 (gI u4 9 0 7)) r = gI u2 r := fun r c d => by rw [V r c, E1 r c d]
        have V3 : ∀ r, r ≠ 9 → r ≠ 63 → r ≠ 3 → r ≠ 5 → (r < 37 ∨ 41 < r) → gI (wI u4 9 0 3 (gI u4 9 0 7)) r = gI u r := fun r c d a b e => by rw [V2 r c d, C1 r a b e]
        have hR : gR (wI u4 9 0 3 (gI u4 9 0 7)) = gR u := ER.trans C3
        refine TQ.same h hv ⟨fun r hr => V3 r (by omega) (by omega) (by omega) (by omega) (by omega), fun k hk => by rw [gI_k (by omega)]; exact E9 k (by omega), by rw [V2 5 (by decide) (by decide)]; exact C51, by rw [gI_k (by decide)]; exact E91, by rw [V2 5 (by decide) (by decide), gI_eq, m4.2]; exact m6⟩ (V3 8 (by decide) (by decide) (by decide) (by decide) (by decide)) (fun k hk => by rw [gI_k (by omega)]; exact E9 k (by omega)) ?_ ?_ ?_
        · refine fun s hs => ⟨fun r hr => ?_, by rw [hR]; exact ⟨rfl, rfl⟩, by rw [V3 66 (by decide) (by decide) (by decide) (by decide) (by decide)], by rw [V3 67 (by decide) (by decide) (by decide) (by decide) (by decide)], fun k _ => by rw [V3 65 (by decide) (by decide) (by decide) (by decide) (by decide)], fun k _ => by rw [V3 69 (by decide) (by decide) (by decide) (by decide) (by decide)]⟩
          rw [V2 r (by omega) (by omega)]
          by_cases e : r = 3 ∨ (37 ≤ r ∧ r ≤ 41)
          · exact C2 r s e (by omega)
          · rw [C1 r (by omega) (by omega) (by omega)]
        · exact fun t ht => ⟨by rw [V3 6 (by decide) (by decide) (by decide) (by decide) (by decide)], by rw [V3 71 (by decide) (by decide) (by decide) (by decide) (by decide)]⟩
        · exact fun q _ => ⟨fun r hr => by rw [V3 r (by omega) (by omega) (by omega) (by omega) (by omega)], by rw [V3 73 (by decide) (by decide) (by decide) (by decide) (by decide)], by rw [V3 76 (by decide) (by decide) (by decide) (by decide) (by decide)], fun k _ => by rw [V3 75 (by decide) (by decide) (by decide) (by decide) (by decide)]⟩
    | ok c =>
      rw [hS] at m2
      obtain ⟨m5, m6, mS, mW, mN, mT⟩ := m2
      obtain ⟨sth, sxt⟩ := scS_all hst8 _ _ _ _ hS (by omega) sth0 sxt0
      obtain ⟨u3, e3, K1, K2, K3, K4⟩ := cSettle (show pNs p < 7 by omega) mS mW mN mT
      have ct3 : gI u3 8 0 2 = nI (pNs p) := by rw [K1 8 (by decide) (by decide), ct2]
      obtain ⟨ua, hua⟩ : ∃ ua, ua = wI u3 8 0 2 (nI (pNs p + 1)) := ⟨_, rfl⟩
      have D1 : ∀ r, r ≠ 8 → gI ua r = gI u3 r := fun r q8 => by rw [hua]; exact gI_r q8
      have D2 : ∀ r, r ≠ 8 → r ≠ 42 → r ≠ 43 → r ≠ 3 → r ≠ 5 → (r < 37 ∨ 41 < r) → gI ua r = gI u r := fun r a b c d e f => by rw [D1 r a, K1 r b c, C1 r d e f]
      obtain ⟨u4, e4, E1, E9, E0, E91, ER, m4⟩ := hrr ua (D2 9 (by decide) (by decide) (by decide) (by decide) (by decide) (by decide)) (D2 60 (by decide) (by decide) (by decide) (by decide) (by decide) (by decide)) (D2 63 (by decide) (by decide) (by decide) (by decide) (by decide) (by decide))
      rw [hS] at m4
      obtain ⟨n6', n7, hRW⟩ := m4
      obtain ⟨u5, hu5⟩ : ∃ u5, u5 = wI (wI (wI u4 9 0 3 (gI u4 9 0 7)) 66 0 (pNs p) (nI (sN c))) 67 0 (pNs p) 0 := ⟨_, rfl⟩
      have G9 : ∀ k, k ≠ 3 → gI u5 9 0 k = gI u4 9 0 k := fun k hk => by rw [hu5, gI_r (by decide), gI_r (by decide), gI_k hk]
      have G93 : gI u5 9 0 3 = -1 := by rw [hu5, gI_r (by decide), gI_r (by decide), gI_eq, n7]
      have G : ∀ r, r ≠ 9 → r ≠ 66 → r ≠ 67 → gI u5 r = gI u4 r := fun r a b c => by rw [hu5, gI_r c, gI_r b, gI_r a]
      have k14 : gI u5 9 0 14 = nI (pNs p) := by rw [G9 14 (by decide), E9 14 (by decide), rt]
      have hRW5 : RW st u5 c := ⟨fun k x hx => by rw [G 63 (by decide) (by decide) (by decide)]; exact hRW.1 k x hx, by rw [G9 9 (by decide)]; exact hRW.2.1, by rw [G9 10 (by decide)]; exact hRW.2.2⟩
      obtain ⟨u6, e6, f6, h65, ⟨h67, h67'⟩, h69⟩ := tRows hs6 u5 k14 hRW5 mN mT sth (by rw [hu5, gI_eq])
      have k14' : gI u6 9 0 14 = nI (pNs p) := by rw [f6.2.1 14 (by simp), k14]
      refine Step.ok (u1 := ua) (u2 := wI u6 9 0 14 (nI (pNs p + 1))) (v := nI (pNs p)) (hcl _ ?_) (e4 _ ?_) ?_ ?_
      · rw [e1]; simp only [ob_q, ct1, if_neg n6, ck_nI hs6 (show 6 < 2 ^ 31 by decide), e2, m5, if_true, e3, ct3, nI_1, hua]
      · simp only [gI_k (show 6 ≠ 3 by decide), n6', if_true, gI_k (show 14 ≠ 3 by decide), E9 14 (by decide), rt, ck_nI hs6 (show 6 < 2 ^ 31 by decide), ob_q, bd_q, gI_k (show 9 ≠ 3 by decide), hRW.2.1, show ∀ (σ : HS) (i k : Nat) (v : Int32), gI (wI σ 66 i k v) 9 = gI σ 9 from fun _ _ _ _ => gI_r (by decide)]
        rw [← hu5, e6]
        simp only [k14', nI_1, gI_eq]
        rw [show nI (pNs p + 1) - 1 = nI (pNs p) from by rw [← nI_1, Int32.add_sub_cancel]]
      · rw [gI_k (by decide), f6.2.1 0 (by simp), G9 0 (by decide), E0]
      · obtain ⟨v, hv'⟩ : ∃ v, v = wI u6 9 0 14 (nI (pNs p + 1)) := ⟨_, rfl⟩
        rw [← hv']
        have V9 : ∀ k, k ≠ 14 → gI v 9 0 k = gI u5 9 0 k := fun k a => by rw [hv', gI_k a, f6.2.1 k (by simp)]
        have V : ∀ r, r ≠ 9 → r ≠ 65 → r ≠ 66 → r ≠ 67 → r ≠ 69 → r ≠ 63 → gI v r = gI ua r := fun r a b c d e f => by rw [hv', gI_r a, f6.1 r (by simp; omega) a, G r a c d, E1 r a f]
        have V2 : ∀ r, r ≠ 9 → r ≠ 65 → r ≠ 66 → r ≠ 67 → r ≠ 69 → r ≠ 63 → r ≠ 8 → r ≠ 42 → r ≠ 43 → r ≠ 3 → r ≠ 5 → (r < 37 ∨ 41 < r) → gI v r = gI u r := fun r a b c d e f g h i j k l => by rw [V r a b c d e f, D2 r g h i j k l]
        have hR : gR v = gR u3 := by
          have q1 : gR u5 = gR u4 := (congrArg gR hu5).trans rfl
          have q2 : gR ua = gR u3 := (congrArg gR hua).trans rfl
          have q3 : gR v = gR u6 := (congrArg gR hv').trans rfl
          exact q3.trans ((f6.2.2.2.trans q1).trans (ER.trans q2))
        have V5 : gI v 5 = gI u2 5 := by rw [V 5 (by decide) (by decide) (by decide) (by decide) (by decide) (by decide), D1 5 (by decide), K1 5 (by decide) (by decide)]
        have tq : TQ u v := ⟨fun r hr => V2 r (by omega) (by omega) (by omega) (by omega) (by omega) (by omega) (by omega) (by omega) (by omega) (by omega) (by omega) (by omega), fun k hk => by rw [V9 k (by omega), G9 k (by omega)]; exact E9 k (by omega), by rw [V5]; exact C51, by rw [V9 1 (by decide), G9 1 (by decide)]; exact E91, by rw [V5, m6, V9 3 (by decide), G93]⟩
        have V8 : ∀ k, k ≠ 2 → gI v 8 0 k = gI u 8 0 k := fun k hk => by rw [V 8 (by decide) (by decide) (by decide) (by decide) (by decide) (by decide), hua, gI_k hk, K1 8 (by decide) (by decide), C1 8 (by decide) (by decide) (by decide)]
        have O65 : ∀ i x, i < 24 * pNs p ∨ 24 * pNs p + 24 ≤ i → gI v 65 i x = gI u 65 i x := fun i x hi => by
          rw [hv', gI_r (by decide), h65, if_neg (by omega), G 65 (by decide) (by decide) (by decide), E1 65 (by decide) (by decide), D2 65 (by decide) (by decide) (by decide) (by decide) (by decide) (by decide)]
        have O69 : ∀ i x, i < 8 * pNs p ∨ 8 * pNs p + 8 ≤ i → gI v 69 i x = gI u 69 i x := fun i x hi => by
          rw [hv', gI_r (by decide), h69, if_neg (by omega), G 69 (by decide) (by decide) (by decide), E1 69 (by decide) (by decide), D2 69 (by decide) (by decide) (by decide) (by decide) (by decide) (by decide)]
        have O66 : ∀ s, s ≠ pNs p → gI v 66 0 s = gI u 66 0 s := fun s hs => by
          rw [hv', gI_r (by decide), f6.1 66 (by decide) (by decide), hu5, gI_r (by decide), gI_k hs, gI_r (by decide), E1 66 (by decide) (by decide), D2 66 (by decide) (by decide) (by decide) (by decide) (by decide) (by decide)]
        have O67 : ∀ s, s ≠ pNs p → gI v 67 0 s = gI u 67 0 s := fun s hs => by
          rw [hv', gI_r (by decide), h67' 0 s (Or.inr hs), hu5, gI_k hs, gI_r (by decide), gI_r (by decide), E1 67 (by decide) (by decide), D2 67 (by decide) (by decide) (by decide) (by decide) (by decide) (by decide)]
        have V42 : ∀ r, r = 3 ∨ (37 ≤ r ∧ r ≤ 43) → gI v r = gI u3 r := fun r hr => by rw [V r (by omega) (by omega) (by omega) (by omega) (by omega) (by omega), D1 r (by omega)]
        have hSs : eqS (pNs p) u v := fun s hs => ⟨fun r hr => by
            rw [V42 r hr, K2 r s (by omega)]
            by_cases e : r = 3 ∨ (37 ≤ r ∧ r ≤ 41)
            · exact C2 r s e (by omega)
            · rw [C1 r (by omega) (by omega) (by omega)], by rw [hR, K3 _ (by omega) (by omega), K3 _ (by omega) (by omega), C3]; exact ⟨rfl, rfl⟩, O66 s (by omega), O67 s (by omega), fun k hk => by funext x; exact O65 _ x (by omega), fun k hk => by funext x; exact O69 _ x (by omega)⟩
        have hKk : eqK (pNt p) u v := fun t _ => ⟨by rw [V2 6 (by decide) (by decide) (by decide) (by decide) (by decide) (by decide) (by decide) (by decide) (by decide) (by decide) (by decide) (by decide)], by rw [V2 71 (by decide) (by decide) (by decide) (by decide) (by decide) (by decide) (by decide) (by decide) (by decide) (by decide) (by decide) (by decide)]⟩
        have hLl : eqL (pNl p) u v := fun q _ => ⟨fun r hr => by rw [V2 r (by omega) (by omega) (by omega) (by omega) (by omega) (by omega) (by omega) (by omega) (by omega) (by omega) (by omega) (by omega)], by rw [V2 73 (by decide) (by decide) (by decide) (by decide) (by decide) (by decide) (by decide) (by decide) (by decide) (by decide) (by decide) (by decide)], by rw [V2 76 (by decide) (by decide) (by decide) (by decide) (by decide) (by decide) (by decide) (by decide) (by decide) (by decide) (by decide) (by decide)], fun k _ => by rw [V2 75 (by decide) (by decide) (by decide) (by decide) (by decide) (by decide) (by decide) (by decide) (by decide) (by decide) (by decide) (by decide)]⟩
        have hRS : RS v (pNs p) c := by
          refine ⟨hs6, mN, mT, ?_, ?_, fun k x hk => ?_, fun t x ht => ?_⟩
          · rw [hv', gI_r (by decide), f6.1 66 (by decide) (by decide), hu5, gI_r (by decide), gI_eq]
          · rw [hv', gI_r (by decide), h67]
          · rw [hv', gI_r (by decide), h65]
            by_cases e : k < sN c ∧ x < 8
            · rw [if_pos (by omega), Nat.add_sub_cancel_left]
            · rw [if_neg (by omega), G 65 (by decide) (by decide) (by decide), E1 65 (by decide) (by decide), D2 65 (by decide) (by decide) (by decide) (by decide) (by decide) (by decide), sxt.1 k x (by omega), hg]
          · rw [hv', gI_r (by decide), h69]
            by_cases e : t < sT c ∧ x < 2
            · rw [if_pos (by omega), Nat.add_sub_cancel_left]
            · rw [if_neg (by omega), G 69 (by decide) (by decide) (by decide), E1 69 (by decide) (by decide), D2 69 (by decide) (by decide) (by decide) (by decide) (by decide) (by decide), sxt.2 t x (by omega), hg2]
        have hSO : SO v (pNs p) c := by
          unfold SO
          rw [V42 3 (by omega), V42 38 (by omega), V42 40 (by omega), V42 41 (by omega), V42 42 (by omega), V42 43 (by omega), hR]
          exact K4
        refine IV.grow (p' := ((pNs p + 1, pNt p, pNl p, pNi p), p.2.1, (fun s => if s = pNs p then c else pC p s), p.2.2.2.1, p.2.2.2.2)) h hv (Nat.le_succ _) (Nat.le_refl _) (Nat.le_refl _) rfl rfl rfl rfl (fun s hs => ?_) (fun _ _ => rfl) (fun _ _ => rfl) ?_ (tq.ta h) (fun s hs' => ?_) (fun t ht => ?_) (fun q hq' => ?_) (fun r hr => tq.1 r (by omega)) (fun k hk => tq.2.1 k (by omega))
        · show (if s = pNs p then _ else _) = _
          rw [if_neg (by omega)]
        · obtain ⟨⟨x1, x2, x3, x4⟩, ⟨y1, y2, y3, y4⟩, z1, z2, z3, z4⟩ := h.1
          refine ⟨⟨show pNs p + 1 ≤ 6 by omega, x2, x3, x4⟩, ⟨?_, by rw [V8 4 (by decide)]; exact y2, by rw [V8 6 (by decide)]; exact y3, by rw [V8 10 (by decide)]; exact y4⟩, by rw [hv', gI_eq]; rfl, by rw [V9 15 (by decide), G9 15 (by decide), E9 15 (by decide)]; exact z2, by rw [V9 16 (by decide), G9 16 (by decide), E9 16 (by decide)]; exact z3, by rw [V9 32 (by decide), G9 32 (by decide), E9 32 (by decide)]; exact z4⟩
          rw [V 8 (by decide) (by decide) (by decide) (by decide) (by decide) (by decide), hua, gI_eq]; rfl
        · have ht' : s < pNs p + 1 := hs'
          show RS v s (if s = pNs p then c else pC p s) ∧ SO v s (if s = pNs p then c else pC p s)
          by_cases e : s = pNs p
          · rw [if_pos e, e]; exact ⟨hRS, hSO⟩
          · rw [if_neg e]
            exact hSs.c (by omega) (h.2.2.1 s (by omega)).1 (h.2.2.1 s (by omega)).2
        · obtain ⟨a, b⟩ := hKk t ht
          rw [a, b]
          exact h.2.2.2.1 t ht
        · obtain ⟨a, b⟩ := hLl.c hq' (h.2.2.2.2.1 q hq').1 (h.2.2.2.2.1 q hq').2.1
          exact ⟨a, b, (h.2.2.2.2.1 q hq').2.2⟩
