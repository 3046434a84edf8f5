/-- the class settles -/
theorem cSettle {i : Nat} {u : HS} {c : SV} (hi : i < 7) (hS : SRd u i c) (hc : SWF c) (hN : sN c ≤ 24) (hT : sT c ≤ 8) : ∃ u', mX3_settle u i = some u' ∧ (∀ r, r ≠ 42 → r ≠ 43 → gI u' r = gI u r) ∧ (∀ r k, k ≠ i → gI u' r k = gI u r k) ∧ (∀ k, k ≠ 3 + i → k ≠ 10 + i → gR u' k = gR u k) ∧ SO u' i c := by
  have hS' := hS
  obtain ⟨⟨g0, g3, g5, g7, g9, g10, g11⟩, hh, r1', r2', r4'⟩ := hS'
  have hnw : nw 2400 (nI (sT c) * 300) = some (300 * sT c) := by
    unfold nw
    rw [n300, nI_clamp (by omega), if_neg (fun q => q.elim (nI_pos (by omega)) (fun z => by omega)), Nat.mul_comm]
  obtain ⟨v, hv⟩ : ∃ v, v = wN (wN u 42 i 3 (300 * sT c)) 43 i 10 (300 * sT c) := ⟨_, rfl⟩
  have V1 : ∀ r, r ≠ 42 → r ≠ 43 → gI v r = gI u r := fun r a b => by
    funext k z
    rw [hv, gI_wN, if_neg (fun q => b q.1), gI_wN, if_neg (fun q => a q.1)]
  have V2 : ∀ r k, k ≠ i → gI v r k = gI u r k := fun r k a => by
    funext z
    rw [hv, gI_wN, if_neg (fun q => a q.2), gI_wN, if_neg (fun q => a q.2)]
  have V3 : ∀ k, gR v k = if k = 10 + i then 300 * sT c else if k = 3 + i then 300 * sT c else gR u k := fun k => by
    rw [hv, gR_wN, gR_wN]
  have v1 : gR v (3 + i) = 300 * sT c := by rw [V3, if_neg (by omega), if_pos rfl]
  have v2 : gR v (10 + i) = 300 * sT c := by rw [V3, if_pos rfl]
  have gs : ∀ w, TF i v w → SRd w i c := fun w hw => by
    unfold SRd
    rw [hw.1 3 (by decide) (by decide), hw.1 37 (by decide) (by decide), hw.1 38 (by decide) (by decide), hw.1 39 (by decide) (by decide), hw.1 40 (by decide) (by decide), hw.1 41 (by decide) (by decide), V1 3 (by decide) (by decide), V1 37 (by decide) (by decide), V1 38 (by decide) (by decide), V1 39 (by decide) (by decide), V1 40 (by decide) (by decide), V1 41 (by decide) (by decide)]
    exact hS
  have hg0 : gI (wN u 42 i 3 (300 * sT c)) 3 i 0 = nI (sT c) := by rw [gI_wN, if_neg (fun q => absurd q.1 (by decide))]; exact g0
  unfold mX3_settle
  simp only [bd_q, jp_q, g0, hnw, ob_q, hg0]
  rw [← hv]
  obtain ⟨ua, ea, fa, ha⟩ := cClr hT (by rw [V1 3 (by decide) (by decide)]; exact g0) v1 v2
  obtain ⟨ub, eb, fb, kb, hb⟩ := cWaysT (gs ua fa) hc hN hT (by rw [fa.2.2]; exact v1) (fun k hk => (ha k hk).1)
  obtain ⟨ud, ed, fd, kd, hd⟩ := cTurns (gs ub (fa.tr fb)) hc hN hT (by rw [fb.2.2, fa.2.2]; exact v2) (fun k hk => by rw [kb]; exact (ha k hk).2)
  rw [ea, eb, ed]
  have F := (fa.tr fb).tr fd
  have key : ∃ u', mX3_settle_L140 i (fun u119 => some u119) FU 0 ud = some u' ∧ TF i ud u' ∧ gI u' 42 = gI ud 42 ∧ ∀ t τ, t < sT c → τ < 300 → gI u' 43 i (300 * t + τ) = colS c (nI t) (nI τ) := by
    refine loopR (fun fu (a : HS) y => mX3_settle_L140 i (fun u119 => some u119) fu y a) (sT c) 0 (fun k a => TF i ud a ∧ gI a 42 = gI ud 42 ∧ ∀ t τ, t < sT c → τ < 300 → gI a 43 i (300 * t + τ) = if t < k then colS c (nI t) (nI τ) else gI ud 43 i (300 * t + τ)) (fun o => ∃ u', o = some u' ∧ TF i ud u' ∧ gI u' 42 = gI ud 42 ∧ ∀ t τ, t < sT c → τ < 300 → gI u' 43 i (300 * t + τ) = colS c (nI t) (nI τ)) ?_ ?_ (sT c) 0 ud FU (Nat.le_refl _) (by omega) (FU_lt (by omega)) ⟨TF.rf, rfl, fun t τ _ _ => by rw [if_neg (by omega)]⟩
    · intro fu a k _ hk ⟨a1, a2, a3⟩ ih
      show ∃ u', mX3_settle_L140 i (fun u119 => some u119) (fu + 1) (nI k) a = some u' ∧ _
      have hSa := gs a (F.tr a1)
      obtain ⟨b, eb', b1, b2, b3, b4⟩ := cTints hc hT hk (hSa.2.1 k hk).1 (by rw [a1.2.2, F.2.2]; exact v2) (fun τ hτ => by rw [a3 k τ hk hτ, if_neg (by omega)]; exact hd k τ hk hτ)
      rw [mX3_settle_L140.eq_2, hSa.1.1, if_neg (nI_ge hk (by omega)), eb']
      simp only [ob_q, bd_q, nI_1]
      refine ih b ⟨a1.tr b1, b2.trans a2, fun t τ ht hτ => ?_⟩
      by_cases e : t = k
      · rw [e, if_pos (by omega)]; exact b3 τ hτ
      · rw [b4 _ (by omega), a3 t τ ht hτ]
        by_cases e2 : t < k
        · rw [if_pos e2, if_pos (by omega)]
        · rw [if_neg e2, if_neg (by omega)]
    · intro fu a ⟨a1, a2, a3⟩
      show ∃ u', mX3_settle_L140 i (fun u119 => some u119) (fu + 1) (nI (sT c)) a = some u' ∧ _
      have hSa := gs a (F.tr a1)
      rw [mX3_settle_L140.eq_2, hSa.1.1, if_pos (nI_le (Nat.le_refl _) (by omega))]
      exact ⟨a, rfl, a1, a2, fun t τ ht hτ => by rw [a3 t τ ht hτ, if_pos ht]⟩
  obtain ⟨u', e, fe, ke, he⟩ := key
  have G := F.tr fe
  have hSe := gs u' G
  obtain ⟨⟨s0, s3, s5, s7, s9, s10, s11⟩, sh, -, sr2, sr4⟩ := hSe
  refine ⟨u', e, fun r a b => (G.1 r a b).trans (V1 r a b), fun r k a => (G.2.1 r k a).trans (V2 r k a), fun k a b => by rw [G.2.2, V3, if_neg b, if_neg a], ⟨hi, hc, hN, hT⟩, ⟨s0, s3, s5, s7, s9, s10, s11⟩, ⟨by rw [G.2.2]; exact v1, by rw [G.2.2]; exact v2⟩, fun t ht => (sh t ht).2, fun j q hq => ⟨sr2 j q hq 0 (by decide), sr2 j q hq 1 (by decide), sr2 j q hq 2 (by decide)⟩, fun j q hq => ⟨sr4 j q hq 0 (by decide), sr4 j q hq 1 (by decide)⟩, fun t τ ht hτ => ⟨?_, he t τ ht hτ⟩⟩
  rw [ke, kd]
  exact hb t τ ht hτ
