/-- one clause of a scene, the class -/
theorem cSceneC {B : Nat → Int32} {n i j p : Nat} {u : HS} {c : SV} (st : Nat → Nat → Int32) (hj : j < 5) (hp : CPs B n (.ok p) u) (h : SRd u i c) (hc : SWF c) (hN : sN c < 24) (hT : sT c ≤ 8) (h8 : ¬ (j = 0 ∧ sT c = 8)) : ∃ u', mX3_readClause u i (nI j) = some u' ∧ SFr i u u' ∧ CPs B n (psP (scN B n p (sT c) j)) u' ∧ ∀ a q, scN B n p (sT c) j = .ok (a, q) → SRd u' i (scA st c j a) := by
  obtain ⟨⟨g0, g3, g5, g7, g9, g10, g11⟩, hh, r1, r2, r4⟩ := h
  have l1 : (klS c 1).length < 24 := Nat.lt_of_le_of_lt klS_le hN
  have l2 : (klS c 2).length < 24 := Nat.lt_of_le_of_lt klS_le hN
  have l4 : (klS c 4).length < 24 := Nat.lt_of_le_of_lt klS_le hN
  have ko : ∀ {a : List Nat} {q : Nat}, scN B n p (sT c) j = .ok (a, q) → aOK (sT c) j a := fun hq => scN_ok hT hq
  have hhk : ∀ (v : HS) (a : List Nat), j ≠ 0 → gI v 37 i = gI u 37 i → gI v 38 i = gI u 38 i → ∀ t, t < sT (scA st c j a) → gI v 37 i t = sH (scA st c j a) t 0 ∧ gI v 38 i t = sH (scA st c j a) t 1 := fun v a hj0 q1 q2 t ht => by
    rw [scA_t, if_neg hj0] at ht
    rw [q1, q2]
    have e : ∀ x, sH (scA st c j a) t x = sH c t x := fun x => if_neg (fun z => hj0 z.1)
    rw [e, e]
    exact hh t ht
  unfold mX3_readClause
  match j, hj with
  | 0, _ =>
    obtain ⟨v, e1, c1, f1, ⟨k3, kr⟩, ko37, kn⟩ := cReadThing hp g0 (by omega)
    rw [if_pos (show nI 0 = 0 from rfl), e1]
    refine ⟨_, rfl, f1.w, c1.w (by decide) (by decide), fun a q hq => ?_⟩
    obtain ⟨z, s, ea, z1, z2, z3⟩ := (ko hq).1 rfl
    obtain ⟨n1, n2⟩ := kn a q hq
    have ap : 0 < a.length := by rw [ea]; simp
    refine ⟨⟨?_, ?_, ?_, ?_, ?_, ?_, ?_⟩, fun t ht => ?_, ?_, ?_, ?_⟩
    · rw [gI_eq, scA_t, if_pos rfl]
    · rw [gI_k (by decide), k3, len_A, if_neg (by decide)]; exact g3
    · rw [gI_k (by decide), k3, len_A, if_neg (by decide)]; exact g5
    · rw [gI_k (by decide), k3, len_A, if_neg (by decide)]; exact g7
    · rw [gI_k (by decide), k3, oddS_A ap, if_neg (by decide)]; exact g9
    · rw [gI_k (by decide), k3, trnS_A hc hT ap, if_neg (fun q => absurd q.1 (by decide))]; exact g10
    · rw [gI_k (by decide), k3, endS_A (fun q => absurd q (by decide)), if_neg (by decide)]; exact g11
    · rw [scA_t, if_pos rfl] at ht
      rw [gI_r (by decide), gI_r (by decide)]
      by_cases e : t = sT c
      · subst e
        rw [n1, n2]
        exact ⟨(if_pos ⟨rfl, rfl, by decide⟩).symm, (if_pos ⟨rfl, rfl, by decide⟩).symm⟩
      · rw [(ko37 t e).1, (ko37 t e).2]
        have e' : ∀ x, sH (scA st c 0 a) t x = sH c t x := fun x => if_neg (fun z => e z.2.1)
        rw [e', e']
        exact hh t (by omega)
    · exact rows_K (by decide) r1 (by rw [gI_r (by decide), kr 39 (by decide) (by decide)])
    · exact rows_K (by decide) r2 (by rw [gI_r (by decide), kr 40 (by decide) (by decide)])
    · exact rows_K (by decide) r4 (by rw [gI_r (by decide), kr 41 (by decide) (by decide)])
  | 1, _ =>
    obtain ⟨v, e1, h1⟩ := cReadWay hp g0 hT g3 l1
    rw [if_neg (show ¬ nI 1 = 0 by decide), if_pos (show nI 1 = 1 from rfl), e1]
    refine ⟨_, rfl, ((h1.sf (by decide)).w).w, (h1.1.w (by decide) (by decide)).w (by decide) (by decide), fun a q hq => ?_⟩
    obtain ⟨t, b, x, y, e', x', y', ea, z1⟩ := (ko hq).2.1 rfl
    obtain ⟨-, ⟨w1, w2, w3, w4⟩, w5, w6⟩ := h1
    obtain ⟨la, va⟩ := w6 a q hq
    have k3 : gI v 3 = gI u 3 := w1 3 (by decide) (by decide)
    have ap : 0 < a.length := by omega
    refine ⟨⟨?_, ?_, ?_, ?_, ?_, ?_, ?_⟩, ?_, ?_, ?_, ?_⟩
    · rw [gI_k (by decide), gI_k (by decide), k3, scA_t, if_neg (by decide)]; exact g0
    · rw [gI_eq, len_A, if_pos (show nI 1 = 1 from rfl)]
    · rw [gI_k (by decide), gI_k (by decide), k3, len_A, if_neg (by decide)]; exact g5
    · rw [gI_k (by decide), gI_k (by decide), k3, len_A, if_neg (by decide)]; exact g7
    · rw [gI_k (by decide), gI_k (by decide), k3, oddS_A ap, if_neg (by decide)]; exact g9
    · rw [gI_k (by decide), gI_k (by decide), k3, trnS_A hc hT ap, if_neg (fun q => absurd q.1 (by decide))]; exact g10
    · rw [gI_k (by decide), gI_eq, endS_A (fun _ => by omega), if_pos (show nI 1 = 1 from rfl), g11, va 4 (by decide)]
    · exact hhk _ a (by decide) (by rw [gI_r (by decide), gI_r (by decide), w1 37 (by decide) (by decide)]) (by rw [gI_r (by decide), gI_r (by decide), w1 38 (by decide) (by decide)])
    · exact rows_A rfl la r1 (fun k hk => by rw [gI_r (by decide), gI_r (by decide)]; exact w5 k hk) (fun b hb => by rw [gI_r (by decide), gI_r (by decide)]; exact va b hb)
    · exact rows_K (by decide) r2 (by rw [gI_r (by decide), gI_r (by decide), w1 40 (by decide) (by decide)])
    · exact rows_K (by decide) r4 (by rw [gI_r (by decide), gI_r (by decide), w1 41 (by decide) (by decide)])
  | 2, _ =>
    obtain ⟨v, e1, h1⟩ := cReadThrow hp g0 hT g5 l2
    rw [if_neg (show ¬ nI 2 = 0 by decide), if_neg (show ¬ nI 2 = 1 by decide), if_pos (show nI 2 = 2 from rfl), e1]
    refine ⟨_, rfl, (h1.sf (by decide)).w, h1.1.w (by decide) (by decide), fun a q hq => ?_⟩
    obtain ⟨-, ⟨w1, w2, w3, w4⟩, w5, w6⟩ := h1
    obtain ⟨la, va⟩ := w6 a q hq
    have k3 : gI v 3 = gI u 3 := w1 3 (by decide) (by decide)
    have ap : 0 < a.length := by omega
    refine ⟨⟨?_, ?_, ?_, ?_, ?_, ?_, ?_⟩, ?_, ?_, ?_, ?_⟩
    · rw [gI_k (by decide), k3, scA_t, if_neg (by decide)]; exact g0
    · rw [gI_k (by decide), k3, len_A, if_neg (by decide)]; exact g3
    · rw [gI_eq, len_A, if_pos (show nI 2 = 2 from rfl)]
    · rw [gI_k (by decide), k3, len_A, if_neg (by decide)]; exact g7
    · rw [gI_k (by decide), k3, oddS_A ap, if_neg (by decide)]; exact g9
    · rw [gI_k (by decide), k3, trnS_A hc hT ap, if_neg (fun q => absurd q.1 (by decide))]; exact g10
    · rw [gI_k (by decide), k3, endS_A (fun q => absurd q (by decide)), if_neg (by decide)]; exact g11
    · exact hhk _ a (by decide) (by rw [gI_r (by decide), w1 37 (by decide) (by decide)]) (by rw [gI_r (by decide), w1 38 (by decide) (by decide)])
    · exact rows_K (by decide) r1 (by rw [gI_r (by decide), w1 39 (by decide) (by decide)])
    · exact rows_A rfl la r2 (fun k hk => by rw [gI_r (by decide)]; exact w5 k hk) (fun b hb => by rw [gI_r (by decide)]; exact va b hb)
    · exact rows_K (by decide) r4 (by rw [gI_r (by decide), w1 41 (by decide) (by decide)])
  | 3, _ =>
    obtain ⟨x1, u1, e1, f1, c1, v1⟩ := cNumS (.ok ([], p)) (fun _ => (0, nI (sT c) - 1, -1)) 0 (nI (sT c) - 1) hp (fun _ _ _ => ⟨rfl, T1_lt hT⟩)
    rw [if_neg (show ¬ nI 3 = 0 by decide), if_neg (show ¬ nI 3 = 1 by decide), if_neg (show ¬ nI 3 = 2 by decide), if_pos (show nI 3 = 3 from rfl), g0, e1]
    simp only [ob_q, bd_q]
    refine ⟨_, rfl, (f1.sf (fun _ q => q)).w, c1.w (by decide) (by decide), fun a q hq => ?_⟩
    obtain ⟨V, b1, b2, -⟩ := v1 [] p rfl a q hq
    have k : ∀ r, r ≠ 5 → gI u1 r = gI u r := f1.1
    have ap : 0 < a.length := by rw [b1]; simp
    have a0 : x1 = nI (a.getD 0 0) := by rw [b2, b1]; rfl
    refine ⟨⟨?_, ?_, ?_, ?_, ?_, ?_, ?_⟩, ?_, ?_, ?_, ?_⟩
    · rw [gI_k (by decide), k 3 (by decide), scA_t, if_neg (by decide)]; exact g0
    · rw [gI_k (by decide), k 3 (by decide), len_A, if_neg (by decide)]; exact g3
    · rw [gI_k (by decide), k 3 (by decide), len_A, if_neg (by decide)]; exact g5
    · rw [gI_k (by decide), k 3 (by decide), len_A, if_neg (by decide)]; exact g7
    · rw [gI_eq, oddS_A ap, if_pos (show nI 3 = 3 from rfl), a0]
    · rw [gI_k (by decide), k 3 (by decide), trnS_A hc hT ap, if_neg (fun q => absurd q.1 (by decide))]; exact g10
    · rw [gI_k (by decide), k 3 (by decide), endS_A (fun q => absurd q (by decide)), if_neg (by decide)]; exact g11
    · exact hhk _ a (by decide) (by rw [gI_r (by decide), k 37 (by decide)]) (by rw [gI_r (by decide), k 38 (by decide)])
    · exact rows_K (by decide) r1 (by rw [gI_r (by decide), k 39 (by decide)])
    · exact rows_K (by decide) r2 (by rw [gI_r (by decide), k 40 (by decide)])
    · exact rows_K (by decide) r4 (by rw [gI_r (by decide), k 41 (by decide)])
  | 4, _ =>
    obtain ⟨v, e1, h1⟩ := cReadTurn hp g0 hT g7 l4
    rw [if_neg (show ¬ nI 4 = 0 by decide), if_neg (show ¬ nI 4 = 1 by decide), if_neg (show ¬ nI 4 = 2 by decide), if_neg (show ¬ nI 4 = 3 by decide), e1]
    obtain ⟨v', hv'⟩ : ∃ v', v' = (if gI u 3 i 10 = -1 then wI v 3 i 10 (gI v 41 i (3 * (klS c 4).length + 0)) else v) := ⟨_, rfl⟩
    have V : ∀ r, r ≠ 3 → gI v' r = gI v r := by
      intro r hr
      rw [hv']
      by_cases e : gI u 3 i 10 = -1
      · rw [if_pos e]; exact gI_r hr
      · rw [if_neg e]
    have V3 : ∀ k, k ≠ 10 → gI v' 3 i k = gI v 3 i k := by
      intro k hk
      rw [hv']
      by_cases e : gI u 3 i 10 = -1
      · rw [if_pos e]; exact gI_k hk
      · rw [if_neg e]
    have sv : SFr i u v' := by
      rw [hv']; split
      · exact (h1.sf (by decide)).w
      · exact h1.sf (by decide)
    have cv : CPs B n (psP (scN B n p (sT c) 4)) v' := h1.1.cg (V 5 (by decide)) (V 45 (by decide))
    rw [← hv']
    refine ⟨_, rfl, sv.w, cv.w (by decide) (by decide), fun a q hq => ?_⟩
    obtain ⟨-, ⟨w1, w2, w3, w4⟩, w5, w6⟩ := h1
    obtain ⟨la, va⟩ := w6 a q hq
    have k3 : gI v 3 = gI u 3 := w1 3 (by decide) (by decide)
    have ap : 0 < a.length := by omega
    refine ⟨⟨?_, ?_, ?_, ?_, ?_, ?_, ?_⟩, ?_, ?_, ?_, ?_⟩
    · rw [gI_k (by decide), V3 0 (by decide), k3, scA_t, if_neg (by decide)]; exact g0
    · rw [gI_k (by decide), V3 3 (by decide), k3, len_A, if_neg (by decide)]; exact g3
    · rw [gI_k (by decide), V3 5 (by decide), k3, len_A, if_neg (by decide)]; exact g5
    · rw [gI_eq, len_A, if_pos (show nI 4 = 4 from rfl)]
    · rw [gI_k (by decide), V3 9 (by decide), k3, oddS_A ap, if_neg (by decide)]; exact g9
    · rw [gI_k (by decide), trnS_A hc hT ap, hv', g10]
      by_cases e : trnS c = -1
      · rw [if_pos e, if_pos ⟨rfl, e⟩, gI_eq]; exact va 0 (by decide)
      · rw [if_neg e, if_neg (fun q => e q.2), k3]; exact g10
    · rw [gI_k (by decide), V3 11 (by decide), k3, endS_A (fun q => absurd q (by decide)), if_neg (by decide)]; exact g11
    · exact hhk _ a (by decide) (by rw [gI_r (by decide), V 37 (by decide), w1 37 (by decide) (by decide)]) (by rw [gI_r (by decide), V 38 (by decide), w1 38 (by decide) (by decide)])
    · exact rows_K (by decide) r1 (by rw [gI_r (by decide), V 39 (by decide), w1 39 (by decide) (by decide)])
    · exact rows_K (by decide) r2 (by rw [gI_r (by decide), V 40 (by decide), w1 40 (by decide) (by decide)])
    · exact rows_A rfl la r4 (fun k hk => by rw [gI_r (by decide), V 41 (by decide)]; exact w5 k hk) (fun b hb => by rw [gI_r (by decide), V 41 (by decide)]; exact va b hb)
