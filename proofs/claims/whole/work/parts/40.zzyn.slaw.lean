-- law
set_option maxHeartbeats 2000000 in
theorem s_law (x : Int32) : Step [1] (fun u => mX8_law u x) (fun u => mX9_law u x) := by
  intro u hI
  have ⟨p, h, hv⟩ := hI
  obtain ⟨hd, hh, t1, t2, t3, t4⟩ := h.2.1
  have w09 : ∀ k, k ≠ 0 → gI (w0 u) 9 0 k = gI u 9 0 k := fun k hk => by unfold w0; rw [gI_k hk]
  cases b1 : inB x (hd + 1) with
  | false =>
    refine Step.bad hI (k := 1) (v := 0) (b := 0) (c := 1) ?_ ?_ (by decide)
    · unfold mX8_law
      simp only [jp_q, t1, pc2 x hd (by omega), b1, Bool.false_eq_true, if_false, ob_q, cReq0, xq1]
    · show mX9_law u x = _
      unfold mX9_law
      simp only [bd_q, w0e, w09 1 (by decide), t2, ob_q, inM x (show hd < 2 ^ 31 - 1 by omega), b1, bI_f, if_true, rBad1 w00 (show (1 : Int32) ≠ 0 by decide), if_neg (show ¬ (1 : Int32) = 0 by decide)]
  | true =>
  obtain ⟨n, hn, rfl⟩ := inB_t (by omega) b1
  have hn4 : n ≤ 400 := by omega
  obtain ⟨u1, e1, f1, l1, a1, a5, a6⟩ := cOpens (u := u) hn4
  have z8 : gI u1 8 = gI u 8 := f1.1 8 (by decide)
  have ct : gI u 8 0 6 = nI (pNl p) := h.1.2.1.2.2.1
  have rt : gI u 9 0 16 = nI (pNl p) := h.1.2.2.2.2.1
  have hnl := h.1.1.2.2.1
  have hcl : ∀ R : Option (Nat × Int32 × HS), ((mX5_open u (nI n)).bind fun u105 => if gI u105 8 0 6 = 4 then some (0, -1, u105) else (ck 4 (gI u105 8 0 6)).bind fun k107 => (mX2_read u105 k107).bind fun u109 => if gI u109 5 0 5 = 0 then some (0, gI u109 8 0 6, wI u109 8 0 6 (gI u109 8 0 6 + 1)) else some (0, gI u109 5 0 5 - 10, u109)) = R → mX8_law u (nI n) = R := fun R hR => by
    rw [← hR]
    unfold mX8_law
    simp only [jp_q, t1, pc2 (nI n) hd (by omega), b1, if_true, ob_q, cReq1, xqz, bd_q]
  have hrf : ∀ (v : HS) (R : Option (Int32 × HS)), gI v 9 = gI u 9 → ((mX9_isRead (w0 v) (nI n) (if pNl p = 4 then 1 else 0)).bind fun z112 => if z112.1 = 0 then some (-1, z112.2) else mX9_law_L55 (fun u117 => if gI (wI u117 9 0 3 (gI u117 9 0 7)) 9 0 6 = 0 then mX9_law_L109 (fun u123 => mX9_law_L142 (fun u127 => (ck 4 (gI u127 9 0 16)).bind fun k129 => bd (wI u127 76 0 k129 (gI u127 9 0 9)) fun u130 => (ck 4 (gI u130 9 0 16)).bind fun k131 => bd (wI u130 77 0 k131 1) fun u132 => bd (wI u132 9 0 16 (gI u132 9 0 16 + 1)) fun u133 => some (gI u133 9 0 16 - 1, u133)) FU 0 u123) FU 0 (wI u117 9 0 3 (gI u117 9 0 7)) else some (gI (wI u117 9 0 3 (gI u117 9 0 7)) 9 0 6 - 10, wI u117 9 0 3 (gI u117 9 0 7))) FU z112.2) = R → mX9_law v (nI n) = R := fun v R hv9 hR => by
    rw [← hR]
    unfold mX9_law
    have y1 : gI (w0 v) 9 0 1 = nI hd := by unfold w0; rw [gI_k (by decide), hv9, t2]
    have y15 : gI (w0 v) 9 0 16 = nI (pNl p) := by unfold w0; rw [gI_k (by decide), hv9, rt]
    simp only [bd_q, w0e, y1, ob_q, inM (nI n) (show hd < 2 ^ 31 - 1 by omega), b1, bI_t, if_neg (show ¬ (1 : Int32) = 0 by decide), rBad0 w00 (show (1 : Int32) ≠ 0 by decide), if_true, y15, jp_q]
    have : (if nI (pNl p) = 4 then some 1 else some 0 : Option Int32) = some (if pNl p = 4 then 1 else 0) := by
      by_cases q : pNl p = 4
      · rw [if_pos q, q]; rfl
      · rw [if_neg q, if_neg (show ¬ nI (pNl p) = 4 from fun y => q ((nI_eq (b := 4) (by omega) (by decide)).mp y))]
    rw [this]
    simp only [ob_q]
  have w0e' : ∀ v : HS, ∀ r, r ≠ 9 → gI (w0 v) r = gI v r := fun v r hr => by unfold w0; rw [gI_r hr]
  by_cases c6 : pNl p = 4
  · refine Step.ok (u1 := u1) (u2 := wI (wI (w0 u1) 9 0 1 0) 9 0 3 (-1)) (v := -1) (hcl _ ?_) (hrf u1 _ (f1.1 9 (by decide)) ?_) ?_ ?_
    · rw [e1]; simp only [ob_q, z8, ct, c6]; rfl
    · rw [if_pos c6]; unfold mX9_isRead; simp only [bd_q, if_neg (show ¬ (1 : Int32) = 0 by decide), ob_q, if_true]
    · rw [gI_k (by decide), gI_k (by decide), w00]
    · have E : ∀ r, r ≠ 5 → r ≠ 9 → gI (wI (wI (w0 u1) 9 0 1 0) 9 0 3 (-1)) r = gI u r := fun r q5 q9 => by rw [gI_r q9, gI_r q9, w0e' u1 r q9, f1.1 r q5]
      have E9 : ∀ k, k ≠ 0 → k ≠ 1 → k ≠ 3 → gI (wI (wI (w0 u1) 9 0 1 0) 9 0 3 (-1)) 9 0 k = gI u 9 0 k := fun k q0 q1 q3 => by rw [gI_k q3, gI_k q1]; unfold w0; rw [gI_k q0, f1.1 9 (by decide)]
      have E5 : gI (wI (wI (w0 u1) 9 0 1 0) 9 0 3 (-1)) 5 = gI u1 5 := by rw [gI_r (by decide), gI_r (by decide), w0e' u1 5 (by decide)]
      have hR : gR (wI (wI (w0 u1) 9 0 1 0) 9 0 3 (-1)) = gR u := f1.2.2
      refine TQ.same h hv ⟨fun r hr => E r (by omega) (by omega), fun k hk => E9 k (by omega) (by omega) (by omega), by rw [E5]; exact a1, by rw [gI_k (by decide), gI_eq], by rw [E5, a6, gI_eq]⟩ (E 8 (by decide) (by decide)) (fun k hk => E9 k (by omega) (by omega) (by omega)) ?_ ?_ ?_
      · exact fun s _ => ⟨fun r hr => by rw [E r (by omega) (by omega)], by rw [hR]; exact ⟨rfl, rfl⟩, by rw [E 66 (by decide) (by decide)], by rw [E 67 (by decide) (by decide)], fun k _ => by rw [E 65 (by decide) (by decide)], fun k _ => by rw [E 69 (by decide) (by decide)]⟩
      · exact fun t _ => ⟨by rw [E 6 (by decide) (by decide)], by rw [E 71 (by decide) (by decide)]⟩
      · exact fun q _ => ⟨fun r hr => by rw [E r (by omega) (by omega)], by rw [E 73 (by decide) (by decide)], by rw [E 76 (by decide) (by decide)], fun k _ => by rw [E 75 (by decide) (by decide)]⟩
  · have hl4 : pNl p < 4 := by omega
    obtain ⟨u2, e2, ⟨f2, g2, k2, r2⟩, m2⟩ := cLawR (i := pNl p) l1 a5 a6
    have ct1 : gI u1 8 0 6 = nI (pNl p) := by rw [z8, ct]
    have ct2 : gI u2 8 0 6 = nI (pNl p) := by rw [f2 8 (by decide) (by decide) (by decide), ct1]
    have n6 : ¬ nI (pNl p) = 4 := fun y => c6 ((nI_eq (b := 4) (by omega) (by decide)).mp y)
    have C1 : ∀ r, r ≠ 5 → r ≠ 1 → (r < 32 ∨ 36 < r) → gI u2 r = gI u r := fun r q5 q1 q => (f2 r q5 q1 q).trans (f1.1 r q5)
    have C2 : ∀ r k, (r = 1 ∨ (32 ≤ r ∧ r ≤ 36)) → k ≠ pNl p → gI u2 r k = gI u r k := fun r k q hk => by rw [g2 r k q hk, f1.1 r (by omega)]
    have C51 : gI u2 5 0 1 = 0 := by rw [k2 1 (by decide)]; exact a1
    have C3 : ∀ k, k ≠ 0 → gR u2 k = gR u k := fun k hk => (r2 k hk).trans (by rw [f1.2.2])
    have hrr : ∀ v : HS, gI v 9 = gI u 9 → gI v 60 = gI u 60 → ∃ u4, (∀ R, (if gI (wI u4 9 0 3 (gI u4 9 0 7)) 9 0 6 = 0 then mX9_law_L109 (fun u123 => mX9_law_L142 (fun u127 => (ck 4 (gI u127 9 0 16)).bind fun k129 => bd (wI u127 76 0 k129 (gI u127 9 0 9)) fun u130 => (ck 4 (gI u130 9 0 16)).bind fun k131 => bd (wI u130 77 0 k131 1) fun u132 => bd (wI u132 9 0 16 (gI u132 9 0 16 + 1)) fun u133 => some (gI u133 9 0 16 - 1, u133)) FU 0 u123) FU 0 (wI u4 9 0 3 (gI u4 9 0 7)) else some (gI (wI u4 9 0 3 (gI u4 9 0 7)) 9 0 6 - 10, wI u4 9 0 3 (gI u4 9 0 7))) = R → mX9_law v (nI n) = R) ∧ (∀ r, r ≠ 9 → r ≠ 61 → r ≠ 63 → gI u4 r = gI v r) ∧ (∀ k, 11 ≤ k → gI u4 9 0 k = gI u 9 0 k) ∧ gI u4 9 0 0 = 0 ∧ gI u4 9 0 1 = 0 ∧ gR u4 = gR v ∧ match lwS (gI u 45 0) n 17 (sk (gI u 45 0) n 0) [] [] with | .ok (R', c') => gI u4 9 0 6 = 0 ∧ gI u4 9 0 7 = -1 ∧ RRw R' u4 ∧ RD (some c') u4 | .error (κ, q) => gI u4 9 0 6 = κ ∧ gI u4 9 0 7 = nI q := fun v hv9 hv60 => by
      obtain ⟨u3, e3, f3, l3, b1', b3', b6', b7', b8', b9', b10', b5'⟩ := tOpens (u := w0 v) (B := gI u 45 0) hn4 (fun k hk => by rw [w0e' v 60 (by decide), hv60]; exact (t3 k (by omega)).symm)
      have hsk0 : sk (gI u 45 0) n (sk (gI u 45 0) n 0) = sk (gI u 45 0) n 0 := sk_idem (Nat.zero_le n)
      have h3 : RLs (gI u 45 0) n 0 0 (.ok (sk (gI u 45 0) n 0, [])) u3 := ⟨⟨⟨_, l3, hsk0⟩, b6', b7'⟩, ⟨b8', fun j hj => absurd hj (Nat.not_lt_zero j)⟩, fun pc hpc => by injection hpc with hpc; rw [← hpc]; exact ⟨Nat.zero_le _, b5'⟩⟩
      obtain ⟨u4, e4, f4, m4⟩ := tLawL (w := fun u117 => if gI (wI u117 9 0 3 (gI u117 9 0 7)) 9 0 6 = 0 then mX9_law_L109 (fun u123 => mX9_law_L142 (fun u127 => (ck 4 (gI u127 9 0 16)).bind fun k129 => bd (wI u127 76 0 k129 (gI u127 9 0 9)) fun u130 => (ck 4 (gI u130 9 0 16)).bind fun k131 => bd (wI u130 77 0 k131 1) fun u132 => bd (wI u132 9 0 16 (gI u132 9 0 16 + 1)) fun u133 => some (gI u133 9 0 16 - 1, u133)) FU 0 u123) FU 0 (wI u117 9 0 3 (gI u117 9 0 7)) else some (gI (wI u117 9 0 3 (gI u117 9 0 7)) 9 0 6 - 10, wI u117 9 0 3 (gI u117 9 0 7))) hn4 17 FU _ u3 [] [] rfl (FU_lt (by decide)) h3 l3 ⟨b9', fun z hz => absurd hz (Nat.not_lt_zero z)⟩ (by decide)
      refine ⟨u4, fun R hR => hrf v R hv9 ?_, fun r q9 q61 q63 => ?_, fun k hk => ?_, ?_, ?_, ?_, m4⟩
      · rw [if_neg c6, e3]
        simp only [ob_q, if_neg (show ¬ (1 : Int32) = 0 by decide)]
        rw [e4]
        exact hR
      · rw [f4.1 r (by simp; omega) q9, f3.1 r (by simp) q9, w0e' v r q9]
      · rw [f4.2.1 k (by simp; omega), f3.2.1 k (by simp; omega)]; unfold w0; rw [gI_k (by omega), hv9]
      · rw [f4.2.1 0 (by decide), f3.2.1 0 (by decide), w00]
      · rw [f4.2.1 1 (by decide), b1']
      · rw [f4.2.2.2, f3.2.2.2]; rfl
    cases hS : lwS (gI u 45 0) n 17 (sk (gI u 45 0) n 0) [] [] with
    | error eq =>
      obtain ⟨κ, q⟩ := eq
      rw [hS] at m2
      obtain ⟨hk0, m5, m6⟩ := m2
      obtain ⟨u4, e4, E1, E9, E0, E91, ER, m4⟩ := hrr u2 (C1 9 (by decide) (by decide) (by decide)) (C1 60 (by decide) (by decide) (by decide))
      rw [hS] at m4
      refine Step.ok (u1 := u2) (u2 := wI u4 9 0 3 (gI u4 9 0 7)) (v := κ - 10) (hcl _ ?_) (e4 _ ?_) ?_ ?_
      · rw [e1]; simp only [ob_q, ct1, if_neg n6, ck_nI hl4 (show 4 < 2 ^ 31 by decide), e2, m5, if_neg hk0]
      · simp only [gI_k (show 6 ≠ 3 by decide), m4.1, if_neg hk0]
      · rw [gI_k (by decide), E0]
      · have V : ∀ r, r ≠ 9 → gI (wI u4 9 0 3 (gI u4 9 0 7)) r = gI u4 r := fun r q9 => gI_r q9
        have V2 : ∀ r, r ≠ 9 → r ≠ 61 → r ≠ 63 → gI (wI u4 9 0 3 (gI u4 9 0 7)) r = gI u2 r := fun r c d e => by rw [V r c, E1 r c d e]
        have V3 : ∀ r, r ≠ 9 → r ≠ 61 → r ≠ 63 → r ≠ 5 → r ≠ 1 → (r < 32 ∨ 36 < r) → gI (wI u4 9 0 3 (gI u4 9 0 7)) r = gI u r := fun r c d e a b f => by rw [V2 r c d e, C1 r a b f]
        have hR : ∀ k, k ≠ 0 → gR (wI u4 9 0 3 (gI u4 9 0 7)) k = gR u k := fun k hk => (congrFun ER k).trans (C3 k hk)
        refine TQ.same h hv ⟨fun r hr => V3 r (by omega) (by omega) (by omega) (by omega) (by omega) (by omega), fun k hk => by rw [gI_k (by omega)]; exact E9 k (by omega), by rw [V2 5 (by decide) (by decide) (by decide)]; exact C51, by rw [gI_k (by decide)]; exact E91, by rw [V2 5 (by decide) (by decide) (by decide), gI_eq, m4.2]; exact m6⟩ (V3 8 (by decide) (by decide) (by decide) (by decide) (by decide) (by decide)) (fun k hk => by rw [gI_k (by omega)]; exact E9 k (by omega)) ?_ ?_ ?_
        · exact fun s hs => ⟨fun r hr => by rw [V3 r (by omega) (by omega) (by omega) (by omega) (by omega) (by omega)], ⟨hR _ (by omega), hR _ (by omega)⟩, by rw [V3 66 (by decide) (by decide) (by decide) (by decide) (by decide) (by decide)], by rw [V3 67 (by decide) (by decide) (by decide) (by decide) (by decide) (by decide)], fun k _ => by rw [V3 65 (by decide) (by decide) (by decide) (by decide) (by decide) (by decide)], fun k _ => by rw [V3 69 (by decide) (by decide) (by decide) (by decide) (by decide) (by decide)]⟩
        · exact fun t ht => ⟨by rw [V3 6 (by decide) (by decide) (by decide) (by decide) (by decide) (by decide)], by rw [V3 71 (by decide) (by decide) (by decide) (by decide) (by decide) (by decide)]⟩
        · exact fun q hq => ⟨fun r hr => by rw [V2 r (by omega) (by omega) (by omega)]; exact C2 r q hr (by omega), by rw [V3 73 (by decide) (by decide) (by decide) (by decide) (by decide) (by decide)], by rw [V3 76 (by decide) (by decide) (by decide) (by decide) (by decide) (by decide)], fun k _ => by rw [V3 75 (by decide) (by decide) (by decide) (by decide) (by decide) (by decide)]⟩
    | ok Rc =>
      obtain ⟨R, c⟩ := Rc
      rw [hS] at m2
      obtain ⟨m5, m6, mR, mC⟩ := m2
      obtain ⟨hcn, hR16, hrOK⟩ := lwS_ok 17 _ [] [] R c (sk_le (Nat.zero_le n)).2 (sk_idem (Nat.zero_le n)) (Nat.zero_le _) (by decide) (fun r hr => absurd hr (List.not_mem_nil)) hS
      have hc4 : c.length ≤ 400 := by omega
      obtain ⟨ua, hua⟩ : ∃ ua, ua = wI u2 8 0 6 (nI (pNl p + 1)) := ⟨_, rfl⟩
      have D1 : ∀ r, r ≠ 8 → gI ua r = gI u2 r := fun r q8 => by rw [hua]; exact gI_r q8
      have D2 : ∀ r, r ≠ 8 → r ≠ 5 → r ≠ 1 → (r < 32 ∨ 36 < r) → gI ua r = gI u r := fun r a b c d => by rw [D1 r a, C1 r b c d]
      obtain ⟨u4, e4, E1, E9, E0, E91, ER, m4⟩ := hrr ua (D2 9 (by decide) (by decide) (by decide) (by decide)) (D2 60 (by decide) (by decide) (by decide) (by decide))
      rw [hS] at m4
      obtain ⟨n6', n7, hRW, hRD⟩ := m4
      obtain ⟨u5, hu5⟩ : ∃ u5, u5 = wI u4 9 0 3 (gI u4 9 0 7) := ⟨_, rfl⟩
      have G9 : ∀ k, k ≠ 3 → gI u5 9 0 k = gI u4 9 0 k := fun k hk => by rw [hu5, gI_k hk]
      have G93 : gI u5 9 0 3 = -1 := by rw [hu5, gI_eq, n7]
      have G : ∀ r, r ≠ 9 → gI u5 r = gI u4 r := fun r a => by rw [hu5, gI_r a]
      have k16 : gI u5 9 0 16 = nI (pNl p) := by rw [G9 16 (by decide), E9 16 (by decide), rt]
      have hRD5 : RD (some c) u5 := by
        unfold RD at hRD ⊢
        simp only at hRD ⊢
        rw [G9 8 (by decide), G 61 (by decide)]
        exact hRD
      obtain ⟨u6, e6, f6, i6, h73⟩ := tKod hl4 hc4 u5 k16 hRD5
      have k16' : gI u6 9 0 16 = nI (pNl p) := by rw [f6.2.1 16 (by simp), k16]
      have hRW6 : RRw R u6 := ⟨by rw [f6.2.1 9 (by simp), G9 9 (by decide)]; exact hRW.1, fun z hz j hj => by rw [f6.1 63 (by decide) (by decide), G 63 (by decide)]; exact hRW.2 z hz j hj⟩
      obtain ⟨u7, e7, f7, i7, h75⟩ := tLRows hl4 hR16 u6 k16' hRW6
      have k16'' : gI u7 9 0 16 = nI (pNl p) := by rw [f7.2.1 16 (by simp), k16']
      have k9'' : gI u7 9 0 9 = nI R.length := by rw [f7.2.1 9 (by simp)]; exact hRW6.1
      obtain ⟨v, hv'⟩ : ∃ v, v = wI (wI (wI u7 76 0 (pNl p) (nI R.length)) 77 0 (pNl p) 1) 9 0 16 (nI (pNl p + 1)) := ⟨_, rfl⟩
      have V : ∀ r, r ≠ 9 → r ≠ 73 → r ≠ 75 → r ≠ 76 → r ≠ 77 → r ≠ 61 → r ≠ 63 → gI v r = gI ua r := fun r a b c d e f g => by rw [hv', gI_r a, gI_r e, gI_r d, f7.1 r (by simpa using c) a, f6.1 r (by simpa using b) a, G r a, E1 r a f g]
      have V77 : gI v 77 = gI u 77 := by
        have b : gI u7 77 = gI u 77 := by rw [f7.1 77 (by decide) (by decide), f6.1 77 (by decide) (by decide), G 77 (by decide), E1 77 (by decide) (by decide) (by decide), D2 77 (by decide) (by decide) (by decide) (by decide)]
        funext i k
        rw [hv', gI_r (by decide), gI_wI]
        by_cases e : 77 = 77 ∧ i = 0 ∧ k = pNl p
        · rw [if_pos e, e.2.1, e.2.2]
          exact (h.2.2.2.2.2.1.2.2.2.2.2.2.1 _ (Nat.le_refl _) hl4).symm
        · rw [if_neg e, gI_r (by decide), b]
      refine Step.ok (u1 := ua) (u2 := v) (v := nI (pNl p)) (hcl _ ?_) (e4 _ ?_) ?_ ?_
      · rw [e1]; simp only [ob_q, ct1, if_neg n6, ck_nI hl4 (show 4 < 2 ^ 31 by decide), e2, m5, if_true, ct2, nI_1, hua]
      · simp only [gI_k (show 6 ≠ 3 by decide), n6', if_true]
        rw [← hu5, e6, e7]
        simp only [k16'', ck_nI hl4 (show 4 < 2 ^ 31 by decide), ob_q, bd_q, k9'', show ∀ (σ : HS) (i k : Nat) (v : Int32), gI (wI σ 76 i k v) 9 = gI σ 9 from fun _ _ _ _ => gI_r (by decide), show ∀ (σ : HS) (i k : Nat) (v : Int32), gI (wI σ 77 i k v) 9 = gI σ 9 from fun _ _ _ _ => gI_r (by decide), nI_1, gI_eq]
        rw [show nI (pNl p + 1) - 1 = nI (pNl p) from by rw [← nI_1, Int32.add_sub_cancel], ← hv']
      · rw [hv', gI_k (by decide), gI_r (by decide), gI_r (by decide), f7.2.1 0 (by simp), f6.2.1 0 (by simp), G9 0 (by decide), E0]
      · have V9 : ∀ k, k ≠ 16 → gI v 9 0 k = gI u5 9 0 k := fun k a => by rw [hv', gI_k a, gI_r (by decide), gI_r (by decide), f7.2.1 k (by simp), f6.2.1 k (by simp)]
        have V2 : ∀ r, r ≠ 9 → r ≠ 73 → r ≠ 75 → r ≠ 76 → r ≠ 77 → r ≠ 61 → r ≠ 63 → r ≠ 8 → r ≠ 5 → r ≠ 1 → (r < 32 ∨ 36 < r) → gI v r = gI u r := fun r a b c d e f g h' i j k => by rw [V r a b c d e f g, D2 r h' i j k]
        have hR : ∀ k, k ≠ 0 → gR v k = gR u k := fun k hk => by
          have q1 : gR v = gR u7 := (congrArg gR hv').trans rfl
          have q2 : gR u5 = gR u4 := (congrArg gR hu5).trans rfl
          have q3 : gR ua = gR u2 := (congrArg gR hua).trans rfl
          rw [q1, f7.2.2.2, f6.2.2.2, q2, ER, q3, C3 k hk]
        have V5 : gI v 5 = gI u2 5 := by rw [V 5 (by decide) (by decide) (by decide) (by decide) (by decide) (by decide) (by decide), D1 5 (by decide)]
        have tq : TQ u v := ⟨fun r hr => by
            by_cases e : r = 77
            · rw [e]; exact V77
            · exact V2 r (by omega) (by omega) (by omega) (by omega) (by omega) (by omega) (by omega) (by omega) (by omega) (by omega) (by omega), fun k hk => by rw [V9 k (by omega), G9 k (by omega)]; exact E9 k (by omega), by rw [V5]; exact C51, by rw [V9 1 (by decide), G9 1 (by decide)]; exact E91, by rw [V5, m6, V9 3 (by decide), G93]⟩
        have V8 : ∀ k, k ≠ 6 → gI v 8 0 k = gI u 8 0 k := fun k hk => by rw [V 8 (by decide) (by decide) (by decide) (by decide) (by decide) (by decide) (by decide), hua, gI_k hk, C1 8 (by decide) (by decide) (by decide)]
        have VL' : ∀ r, r = 1 ∨ (32 ≤ r ∧ r ≤ 36) → gI v r = gI u2 r := fun r hr => by rw [V r (by omega) (by omega) (by omega) (by omega) (by omega) (by omega) (by omega), D1 r (by omega)]
        have O73 : ∀ i, i ≠ pNl p → gI v 73 i = gI u 73 i := fun i hi => by
          rw [hv', gI_r (by decide), gI_r (by decide), gI_r (by decide), f7.1 73 (by decide) (by decide), i6 i hi, G 73 (by decide), E1 73 (by decide) (by decide) (by decide), D2 73 (by decide) (by decide) (by decide) (by decide)]
        have O75 : ∀ i, i < 16 * pNl p ∨ 16 * pNl p + 16 ≤ i → gI v 75 i = gI u 75 i := fun i hi => by
          rw [hv', gI_r (by decide), gI_r (by decide), gI_r (by decide), i7 i hi, f6.1 75 (by decide) (by decide), G 75 (by decide), E1 75 (by decide) (by decide) (by decide), D2 75 (by decide) (by decide) (by decide) (by decide)]
        have O76 : ∀ q, q ≠ pNl p → gI v 76 0 q = gI u 76 0 q := fun q hq => by
          rw [hv', gI_r (by decide), gI_r (by decide), gI_k hq, f7.1 76 (by decide) (by decide), f6.1 76 (by decide) (by decide), G 76 (by decide), E1 76 (by decide) (by decide) (by decide), D2 76 (by decide) (by decide) (by decide) (by decide)]
        have hSs : eqS (pNs p) u v := fun s hs => ⟨fun r hr => by rw [V2 r (by omega) (by omega) (by omega) (by omega) (by omega) (by omega) (by omega) (by omega) (by omega) (by omega) (by omega)], ⟨hR _ (by omega), hR _ (by omega)⟩, by rw [V2 66 (by decide) (by decide) (by decide) (by decide) (by decide) (by decide) (by decide) (by decide) (by decide) (by decide) (by decide)], by rw [V2 67 (by decide) (by decide) (by decide) (by decide) (by decide) (by decide) (by decide) (by decide) (by decide) (by decide) (by decide)], fun k _ => by rw [V2 65 (by decide) (by decide) (by decide) (by decide) (by decide) (by decide) (by decide) (by decide) (by decide) (by decide) (by decide)], fun k _ => by rw [V2 69 (by decide) (by decide) (by decide) (by decide) (by decide) (by decide) (by decide) (by decide) (by decide) (by decide) (by decide)]⟩
        have hKk : eqK (pNt p) u v := fun t _ => ⟨by rw [V2 6 (by decide) (by decide) (by decide) (by decide) (by decide) (by decide) (by decide) (by decide) (by decide) (by decide) (by decide)], by rw [V2 71 (by decide) (by decide) (by decide) (by decide) (by decide) (by decide) (by decide) (by decide) (by decide) (by decide) (by decide)]⟩
        have hLl : eqL (pNl p) u v := fun q hq => ⟨fun r hr => by rw [VL' r hr]; exact C2 r q hr (by omega), O73 q (by omega), O76 q (by omega), fun k hk => O75 _ (by omega)⟩
        have hLR : LR v (pNl p) (lwOf R c) := by
          refine ⟨hl4, hR16, ?_, fun k j hk hj => ?_, fun z hz => ?_⟩
          · rw [hv', gI_r (by decide), gI_r (by decide), gI_eq]; rfl
          · rw [hv', gI_r (by decide), gI_r (by decide), gI_r (by decide)]; exact h75 k hk j hj
          · rw [hv', gI_r (by decide), gI_r (by decide), gI_r (by decide), f7.1 73 (by decide) (by decide)]; exact h73 z hz
        have hLC : LC v (pNl p) (lwOf R c) := by
          have := mR.lc hR16 mC hrOK hc4
          unfold LC at this ⊢
          rw [VL' 1 (by omega), VL' 32 (by omega), VL' 33 (by omega), VL' 34 (by omega), VL' 35 (by omega), VL' 36 (by omega)]
          exact this
        refine IV.grow (p' := ((pNs p, pNt p, pNl p + 1, pNi p), p.2.1, p.2.2.1, p.2.2.2.1, (fun q => if q = pNl p then lwOf R c else pW p q))) h hv (Nat.le_refl _) (Nat.le_refl _) (Nat.le_succ _) rfl rfl rfl rfl (fun _ _ => rfl) (fun _ _ => rfl) (fun q hq => ?_) ?_ (tq.ta h) (fun s hs' => hSs.c hs' (h.2.2.1 s hs').1 (h.2.2.1 s hs').2) (fun t ht => ?_) (fun q hq' => ?_) (fun r hr => tq.1 r (by omega)) (fun k hk => tq.2.1 k (by omega))
        · show (if q = pNl p then _ else _) = _
          rw [if_neg (by omega)]
        · obtain ⟨⟨x1, x2, x3, x4⟩, ⟨y1, y2, y3, y4⟩, z1, z2, z3, z4⟩ := h.1
          refine ⟨⟨x1, x2, show pNl p + 1 ≤ 4 by omega, x4⟩, ⟨by rw [V8 2 (by decide)]; exact y1, by rw [V8 4 (by decide)]; exact y2, ?_, by rw [V8 10 (by decide)]; exact y4⟩, by rw [V9 14 (by decide), G9 14 (by decide), E9 14 (by decide)]; exact z1, by rw [V9 15 (by decide), G9 15 (by decide), E9 15 (by decide)]; exact z2, by rw [hv', gI_eq]; rfl, by rw [V9 32 (by decide), G9 32 (by decide), E9 32 (by decide)]; exact z4⟩
          rw [V 8 (by decide) (by decide) (by decide) (by decide) (by decide) (by decide) (by decide), hua, gI_eq]; rfl
        · obtain ⟨a, b⟩ := hKk t ht
          rw [a, b]
          exact h.2.2.2.1 t ht
        · have ht' : q < pNl p + 1 := hq'
          show LR v q (if q = pNl p then lwOf R c else pW p q) ∧ LC v q (if q = pNl p then lwOf R c else pW p q) ∧ LWF (if q = pNl p then lwOf R c else pW p q)
          by_cases e : q = pNl p
          · rw [if_pos e, e]; exact ⟨hLR, hLC, lwOf_wf hc4 hrOK⟩
          · rw [if_neg e]
            obtain ⟨a, b⟩ := hLl.c (show q < pNl p by omega) (h.2.2.2.2.1 q (by omega)).1 (h.2.2.2.2.1 q (by omega)).2.1
            exact ⟨a, b, (h.2.2.2.2.1 q (by omega)).2.2⟩
