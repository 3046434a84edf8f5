theorem cForgetAll (u : HS) {w : HS → Option (Int32 × HS)} : ∃ u', mX8_restore_L37 w FU 0 u = w u' ∧ Fr [54] [] u u' ∧ ∀ i, gI u' 54 0 i = if i < 56 then -1 else gI u 54 0 i := by
  refine loopR (fun fu (a : HS) y => mX8_restore_L37 w fu y a) 14 0 (fun j a => Fr [54] [] u a ∧ ∀ i, gI a 54 0 i = if i < 4 * j then -1 else gI u 54 0 i) (fun o => ∃ u', o = w u' ∧ Fr [54] [] u u' ∧ ∀ i, gI u' 54 0 i = if i < 56 then -1 else gI u 54 0 i) ?_ ?_ 14 0 u FU (Nat.le_refl _) rfl (FU_lt (by omega)) ⟨Fr.rf, fun i => by rw [if_neg (by omega)]⟩
  · intro fu a j _ hj ⟨h1, h2⟩ ih
    show ∃ u', mX8_restore_L37 w (fu + 1) (nI j) a = w u' ∧ _
    obtain ⟨a1, e1, f1, g1⟩ := cForget a hj
    rw [mX8_restore_L37.eq_2, if_neg (show ¬ (14 : Int32) ≤ nI j from nI_ge (b := 14) hj (by decide)), e1]
    simp only [ob_q, bd_q, nI_1]
    refine ih _ ⟨h1.tr f1, fun i => ?_⟩
    rw [g1, h2]
    by_cases c : 4 * j ≤ i ∧ i < 4 * j + 4
    · rw [if_pos c, if_pos (by omega)]
    · rw [if_neg c]
      by_cases d : i < 4 * j
      · rw [if_pos d, if_pos (by omega)]
      · rw [if_neg d, if_neg (by omega)]
  · intro fu a ⟨h1, h2⟩
    show ∃ u', mX8_restore_L37 w (fu + 1) (nI 14) a = w u' ∧ _
    rw [mX8_restore_L37.eq_2, if_pos (show (14 : Int32) ≤ nI 14 by decide)]
    exact ⟨a, rfl, h1, h2⟩
theorem s_restore : StepN mX8_restore mX9_restore := by
  intro u hI
  have ⟨p, h, hv⟩ := hI
  obtain ⟨⟨n1, n2, n3, n4⟩, ⟨c1, c2, c3, c4⟩, d1, d2, d3, d4⟩ := h.1
  by_cases c : pNi p = 0
  · refine ⟨-1, u, w0 u, ?_, ?_, w00, p, w0c h, QF.w0.s w054 hv⟩
    · unfold mX8_restore; rw [c4, c, if_pos (by rfl)]
    · unfold mX9_restore
      simp only [bd_q, w0e, show gI (w0 u) 9 0 32 = 0 from by unfold w0; rw [gI_k (by decide), d4, c]; rfl, if_true]
  · obtain ⟨k, hk⟩ : ∃ k, pNi p = k + 1 := ⟨pNi p - 1, by omega⟩
    have hk3 : k < 3 := by omega
    rw [hk] at c4 d4
    have nk0 : ¬ nI (k + 1) = 0 := nI_ne0 (by omega) (by omega)
    have sub1 : nI (k + 1) - 1 = nI k := by rw [← nI_1, Int32.add_sub_cancel]
    obtain ⟨n, nr, nb, h', hh, i0, i1, i2, i4, iL, iE, iB, iW, vL, vE, vB, vW⟩ := h.2.2.2.2.2.2.1 k (by omega)
    obtain ⟨ua, hua⟩ : ∃ ua, ua = wI u 8 0 10 (nI k) := ⟨_, rfl⟩
    have z8 : gI ua 8 0 10 = nI k := by rw [hua, gI_eq]
    obtain ⟨uc, ec, k1, k2, k3, ⟨k40, k43, k47, k411, k416⟩, k5⟩ := cCopy ua (a := 0) (b := k + 1) (by omega)
    obtain ⟨u1, e1, f1, g1⟩ := cForgetAll uc (w := fun u108 => some (gI u108 8 0 10, u108))
    have y8 : gI u1 8 0 10 = nI k := by rw [f1.m1 (by decide) (by decide), k1 8 (by decide) (by decide), z8]
    obtain ⟨s, hs⟩ : ∃ s, s = wI (w0 u1) 9 0 32 (nI k) := ⟨_, rfl⟩
    have W9 : ∀ k, k ≠ 0 → gI (w0 u1) 9 0 k = gI u 9 0 k := fun j hj => by unfold w0; rw [gI_k hj, f1.2.1 j (by simp), k1 9 (by decide) (by decide), hua, gI_r (by decide)]
    have S9 : ∀ k, k ≠ 0 → k ≠ 32 → gI s 9 0 k = gI u 9 0 k := fun j hj h2 => by rw [hs, gI_k h2, W9 j hj]
    have S : ∀ r, r ≠ 9 → r ≠ 8 → r ≠ 0 → r ≠ 54 → (r < 20 ∨ 31 < r) → gI s r = gI u r := fun r a b c d e => by rw [hs, gI_r a]; unfold w0; rw [gI_r a, f1.1 r (by simpa using d) a, k1 r c e, hua, gI_r b]
    have Sa : ∀ r, (r = 0 ∨ (20 ≤ r ∧ r ≤ 31)) → gI s r = gI uc r := fun r a => by rw [hs, gI_r (by omega)]; unfold w0; rw [gI_r (by omega), f1.1 r (by simp; omega) (by omega)]
    have u87 : gI s 87 = gI u 87 := S 87 (by decide) (by decide) (by decide) (by decide) (by decide)
    obtain ⟨v, ev, vR, vG⟩ := rRestore (s := s) hk3 (show h' ≤ 4 by omega) (by rw [u87]; exact i4)
    have T : ∀ r, r ≠ 9 → r ≠ 77 → r ≠ 81 → r ≠ 83 → r ≠ 85 → gI v r = gI s r := fun r a b c d e => by
      funext i j
      have pc := posR_c r i j
      rw [vG r i j (fun q => a q.1), if_neg (by omega)]
    have T9 : ∀ j, j < 28 ∨ 31 < j → j ≠ 37 → gI v 9 0 j = gI s 9 0 j := fun j a b => by
      have pc := posR_c 9 0 j
      rw [vG 9 0 j (fun q => b q.2.2), if_neg (by omega)]
    have f9 : ∀ j, 28 ≤ j → j ≤ 31 → gI v 9 0 j = gI u 87 k (j - 28) := fun j x y => by
      have : posR 9 0 j = j - 28 := by unfold posR; rw [if_pos ⟨rfl, rfl, x, y⟩]
      rw [vG 9 0 j (fun q => by omega), if_pos (by omega), if_neg (by omega), this, u87]
    have vv81 : ∀ l j, l < n → j < 8 → lkF v l j = imL (gI u 87 k) l j := fun l j hl hj => by
      have h14 := iL.1
      unfold lkF imL
      rw [if_pos (by omega), vG 81 l j (fun q => by omega), pos81 (by omega) hj, if_pos (by omega), if_neg (by omega), u87]
    have vv83 : ∀ l j, l < nr → j < 4 → gI v 83 l j = imE (gI u 87 k) l j := fun l j hl hj => by
      have h60 := iE.1
      unfold imE
      rw [vG 83 l j (fun q => by omega), pos83 (by omega) hj, if_pos (by omega), if_neg (by omega), u87]
    have vv85 : ∀ l j, l < nb → j < 3 → gI v 85 l j = imB (gI u 87 k) l j := fun l j hl hj => by
      have h40 := iB.1
      unfold imB
      rw [vG 85 l j (fun q => by omega), pos85 (by omega) hj, if_pos (by omega), if_neg (by omega), u87]
    have vv77 : ∀ q, q < 4 → gI v 77 0 q = imW (gI u 87 k) h' q := fun q hq => by
      unfold imW
      rw [vG 77 0 q (fun q => by omega), pos77 hq, if_pos (by omega)]
      by_cases d : q < h'
      · rw [if_neg (by omega), if_pos d, u87]
      · rw [if_pos ⟨rfl, rfl, by omega, hq⟩, if_neg d]
    have hFI : FI u v := by
      refine ⟨fun r a b c => ?_, fun j a => ?_, fun j a b => ?_, ?_⟩
      · simp only [List.mem_cons, List.not_mem_nil, or_false] at c
        rw [T r (by omega) (by omega) (by omega) (by omega) (by omega), S r (by omega) (by omega) a (by omega) b]
      · rw [T 8 (by decide) (by decide) (by decide) (by decide) (by decide), hs, gI_r (by decide)]
        unfold w0
        rw [gI_r (by decide), f1.m1 (by decide) (by decide), k1 8 (by decide) (by decide), hua, gI_k a]
      · rw [T9 j (by omega) (by omega), S9 j b (by omega)]
      · rw [vR, hs]; show gR u1 = gR u; rw [f1.2.2.2, k5, hua]; rfl
    have s0 : ∀ r, 20 ≤ r ∧ r ≤ 31 → gI v r 0 = gI u r (k + 1) := fun r hr => by
      rw [T r (by omega) (by omega) (by omega) (by omega) (by omega), Sa r (by omega), k3 r hr, hua, gI_r (by omega)]
    have s00 : gI v 0 0 = gI uc 0 0 := by rw [T 0 (by decide) (by decide) (by decide) (by decide) (by decide), Sa 0 (by omega)]
    have a00 : gI ua 0 = gI u 0 := by rw [hua, gI_r (by decide)]
    have hW0 : HW v 0 (gI v 77 0) (gI v 9 0 31) := iW.sl (by rw [s00, k416, a00]) s0 vv77 (f9 31 (by decide) (by decide))
    refine ⟨nI k, u1, v, ?_, ?_, ?_, pI p k n nr nb, hFI.iv h (by omega) ?_ ?_ ⟨⟨(f9 28 (by decide) (by decide)).trans i0, (f9 29 (by decide) (by decide)).trans i1, (f9 30 (by decide) (by decide)).trans i2⟩, ⟨iL.sl (by rw [s00, k40, a00]) (by rw [s00, k43, a00]) s0 vv81, iE.sl (by rw [s00, k47, a00]) s0 vv83, iB.sl (by rw [s00, k411, a00]) s0 vv85, hW0⟩, vL.cg vv81, vE.cg vv83, vB.cg vv85, ?_⟩ ?_, ?_⟩
    · unfold mX8_restore
      rw [c4, if_neg nk0, sub1]
      simp only [bd_q, jp_q]
      rw [← hua, z8, ck3 hk3]
      simp only [ob_q, ec]
      rw [e1, y8]
    · unfold mX9_restore
      simp only [bd_q, w0e, W9 32 (by decide), d4]
      rw [if_neg nk0, sub1, ← hs, show gI s 9 0 32 = nI k from by rw [hs, gI_eq], ev]
      simp only [ob_q]
      rw [T9 32 (by decide) (by decide), hs, gI_eq]
    · rw [T9 0 (by decide) (by decide), hs, gI_k (by decide), w00]
    · rw [T 8 (by decide) (by decide) (by decide) (by decide) (by decide), hs, gI_r (by decide)]
      unfold w0
      rw [gI_r (by decide), y8]
    · rw [T9 32 (by decide) (by decide), hs, gI_eq]
    · refine ⟨fun q hq => by rw [vv77 q hq]; exact vW.1 q hq, fun q a b => by rw [vv77 q b]; exact vW.2.1 q (Nat.le_trans hh a) b, by rw [f9 31 (by decide) (by decide)]; exact vW.2.2⟩
    · intro j hj
      refine (h.2.2.2.2.2.2.1 j (by omega)).sl (fun r hr => ?_) ?_
      · rw [T r (by omega) (by omega) (by omega) (by omega) (by omega), Sa r hr, k2 r (j + 1) (by omega), hua, gI_r (by omega)]
      · rw [T 87 (by decide) (by decide) (by decide) (by decide) (by decide), u87]
    · have S54 : ∀ i, gI v 54 0 i = if i < 56 then -1 else gI u 54 0 i := fun i => by
        rw [T 54 (by decide) (by decide) (by decide) (by decide) (by decide), hs, gI_r (by decide)]
        unfold w0
        rw [gI_r (by decide), g1, k1 54 (by decide) (by decide), hua, gI_r (by decide)]
      refine ⟨fun l q hl hq => Or.inl (by rw [S54, if_pos (by omega)]), fun s t q hs ht hq => ?_⟩
      rw [S54, if_neg (by omega)]
      exact hv.2 s t q hs ht hq
