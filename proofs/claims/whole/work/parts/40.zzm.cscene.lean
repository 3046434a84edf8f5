theorem wd16_lt {B : Nat → Int32} {n p j : Nat} (h : wdO 16 B n p = some j) : j < 5 := by
  rw [wd16] at h
  split at h
  · injection h with h; omega
  · split at h
    · injection h with h; omega
    · split at h
      · injection h with h; omega
      · split at h
        · injection h with h; omega
        · split at h
          · injection h with h; omega
          · cases h
theorem cSceneF {B : Nat → Int32} {n i k fu : Nat} {u : HS} {e : Int32 × Nat} (hk : k ≤ 25) (h : CPs B n (.error e) u) : ∃ u', mX3_read_L37 i (fun u => some u) (fu + 1) (nI k) u = some u' ∧ SFr i u u' ∧ CPs B n (.error e) u' := by
  have h' := h
  obtain ⟨⟨p, l⟩, h0, h5, h6⟩ := h
  rw [mX3_read_L37.eq_2]
  by_cases c : 24 < k
  · rw [if_pos (show (24 : Int32) < nI k from nI_lt (a := 24) c (by omega))]
    exact ⟨u, rfl, SFr.rf, h'⟩
  · rw [if_neg (show ¬ (24 : Int32) < nI k from nI_nlt (a := 24) (by omega) (by omega))]
    obtain ⟨val, u1, p1, e1, f1, l1, g1, -⟩ := cClause (i := 16) (k := k) (m := 24) ⟨by decide, by decide⟩ (by omega) (by decide) l
    obtain ⟨gv, g5, g6⟩ := g1 (by rw [h5]; exact h0)
    rw [show mX5_clauseWord u 16 (nI k) 24 = _ from e1, gv]
    simp only [ob_q, bd_q, if_true]
    exact ⟨u1, rfl, f1.sf (fun _ q => q), ⟨p1, l1⟩, h0, g5.trans h5, g6.trans h6⟩
theorem cSceneL {B : Nat → Int32} {n i : Nat} (st : Nat → Nat → Int32) : ∀ (d k fu p : Nat) (u : HS) (c : SV), k + d = 25 → d < fu → CPs B n (.ok p) u → SRd u i c → SWF c → sN c = k → sN c ≤ 24 → sT c ≤ 8 → ∃ u', mX3_read_L37 i (fun u => some u) fu (nI k) u = some u' ∧ SFr i u u' ∧ match scS st B n d p c with | .ok c' => gI u' 5 0 5 = 0 ∧ gI u' 5 0 6 = -1 ∧ SRd u' i c' ∧ SWF c' ∧ sN c' ≤ 24 ∧ sT c' ≤ 8 | .error (κ, q) => κ ≠ 0 ∧ gI u' 5 0 5 = κ ∧ gI u' 5 0 6 = nI q := by
  intro d
  induction d with
  | zero => intro k fu p u c h1 _ _ _ _ h2 h3; omega
  | succ d ih =>
    intro k fu p u c h1 h2 hp h hc hN hN4 hT
    obtain ⟨z, rfl⟩ : ∃ z, fu = z + 1 := ⟨fu - 1, by omega⟩
    obtain ⟨⟨p', l, hs⟩, h5, h6⟩ := hp
    have hp' := l.2.2.2.1
    have hsk := sk_of hp' hs
    have hcg : sk B n p' = sk B n p := by rw [hs]; exact hsk.symm
    rw [mX3_read_L37.eq_2, if_neg (show ¬ (24 : Int32) < nI k from nI_nlt (a := 24) (by omega) (by omega))]
    obtain ⟨val, u1, p1, e1, f1, l1, -, g1⟩ := cClause (i := 16) (k := k) (m := 24) ⟨by decide, by decide⟩ (by omega) (by decide) l
    have g1' := g1 h5
    rw [wdO_cg hcg, wsE_cg hcg, hs] at g1'
    rw [show mX5_clauseWord u 16 (nI k) 24 = _ from e1]
    simp only [ob_q, bd_q]
    have F1 : SFr i u u1 := f1.sf (fun _ q => q)
    unfold scS
    cases hw : wdO 16 B n p with
    | none =>
      rw [hw] at g1'
      obtain ⟨gv, g2⟩ := g1'
      rw [gv, if_pos rfl]
      refine ⟨u1, rfl, F1, ?_⟩
      by_cases c1 : p = n
      · rw [if_pos c1] at g2
        simp only [if_pos c1]
        refine ⟨g2.1, g2.2.1.trans h6, ?_, hc, hN4, hT⟩
        unfold SRd
        rw [f1.1 3 (by decide), f1.1 37 (by decide), f1.1 38 (by decide), f1.1 39 (by decide), f1.1 40 (by decide), f1.1 41 (by decide)]
        exact h
      · rw [if_neg c1] at g2
        simp only [if_neg c1]
        exact ⟨by decide, g2.1, g2.2⟩
    | some j =>
      rw [hw] at g1'
      have hj5 := wd16_lt hw
      simp only at g1' ⊢
      by_cases c1 : sN c < 24
      · rw [if_pos (show k < 24 by omega)] at g1'
        simp only [if_pos c1]
        obtain ⟨gv, g5, g6, gp, g4⟩ := g1'
        subst gp
        rw [gv, if_neg (nI_m1 (by omega))]
        have C1 : CPs B n (.ok (sk B n (wsE B n p))) u1 := ⟨⟨wsE B n p, l1, rfl⟩, g5, g6.trans h6⟩
        have S1 : SRd u1 i c := by
          unfold SRd
          rw [f1.1 3 (by decide), f1.1 37 (by decide), f1.1 38 (by decide), f1.1 39 (by decide), f1.1 40 (by decide), f1.1 41 (by decide)]
          exact h
        -- what a fault comes to
        have fault : ∀ (v : HS) (e : Int32 × Nat), SFr i u v → CPs B n (.error e) v → ∃ u', ((mX5_demandSign v 0).bind fun z119 => mX3_read_L37 i (fun u => some u) z (nI (k + 1)) z119.2) = some u' ∧ SFr i u u' ∧ e.1 ≠ 0 ∧ gI u' 5 0 5 = e.1 ∧ gI u' 5 0 6 = nI e.2 := fun v e hv he => by
          obtain ⟨y, v1, e4, f4, c4⟩ := cSemi (.error e) he
          obtain ⟨z', rfl⟩ : ∃ z', z = z' + 1 := ⟨z - 1, by omega⟩
          obtain ⟨u', e5, f5, c5⟩ := cSceneF (i := i) (k := k + 1) (fu := z') (by omega) c4
          rw [e4]
          exact ⟨u', e5, (hv.tr (f4.sf (fun _ q => q))).tr f5, c5.2⟩
        by_cases c8 : j = 0 ∧ sT c = 8
        · simp only [if_pos c8]
          obtain ⟨v, e3, f3, b3, -⟩ := cBlame (u := u1) 3 (nI p)
          obtain ⟨b5, b6⟩ := b3 g5
          have er : mX3_readClause u1 i (nI j) = some v := by
            unfold mX3_readClause mX3_readThing
            rw [c8.1, if_pos (show nI 0 = 0 from rfl), S1.1.1, c8.2, if_pos (show nI 8 = 8 from rfl), g4, e3]
            rfl
          rw [er]
          simp only [ob_q, nI_1]
          obtain ⟨u', e', f', m'⟩ := fault v (3, p) (F1.tr (f3.sf (by decide))) ⟨⟨_, l1.fc f3 (by decide) (by decide)⟩, show (3 : Int32) ≠ 0 by decide, b5, b6⟩
          exact ⟨u', e', f', m'⟩
        · simp only [if_neg c8]
          obtain ⟨v, e3, f3, c3, s3⟩ := cSceneC st hj5 C1 S1 hc c1 hT c8
          rw [e3]
          simp only [ob_q, nI_1]
          cases hS : scN B n (sk B n (wsE B n p)) (sT c) j with
          | error e =>
            rw [hS] at c3
            obtain ⟨u', e', f', m'⟩ := fault v e (F1.tr f3) c3
            exact ⟨u', e', f', m'⟩
          | ok aq =>
            obtain ⟨a, q⟩ := aq
            rw [hS] at c3
            have S3 := s3 a q hS
            obtain ⟨y, v1, e4, f4, c4⟩ := cSemi (.ok q) c3
            cases hG : sgB B n q 59 with
            | false =>
              simp only [hG, Bool.false_eq_true, if_false]
              rw [stG_f hG] at c4
              obtain ⟨z', rfl⟩ : ∃ z', z = z' + 1 := ⟨z - 1, by omega⟩
              obtain ⟨u', e5, f5, c5⟩ := cSceneF (i := i) (k := k + 1) (fu := z') (by omega) c4
              rw [e4]
              exact ⟨u', e5, ((F1.tr f3).tr (f4.sf (fun _ q => q))).tr f5, c5.2⟩
            | true =>
              simp only [hG, if_true]
              rw [stG_t hG] at c4
              rw [e4]
              simp only [ob_q]
              have S4 : SRd v1 i (scA st c j a) := by
                unfold SRd
                rw [f4.1 3 (by decide), f4.1 37 (by decide), f4.1 38 (by decide), f4.1 39 (by decide), f4.1 40 (by decide), f4.1 41 (by decide)]
                exact S3
              have T8 : sT (scA st c j a) ≤ 8 := by
                rw [scA_t]
                by_cases e0 : j = 0
                · rw [if_pos e0]
                  have : sT c ≠ 8 := fun q => c8 ⟨e0, q⟩
                  omega
                · rw [if_neg e0]; exact hT
              obtain ⟨u', e', f', m'⟩ := ih (k + 1) z (sk B n (q + 1)) v1 (scA st c j a) (by omega) (by omega) c4 S4 (hc.A hj5 (scN_ok hT hS)) (by rw [scA_n, hN]) (by rw [scA_n]; omega) T8
              exact ⟨u', e', ((F1.tr f3).tr (f4.sf (fun _ q => q))).tr f', m'⟩
      · rw [if_neg (show ¬ k < 24 by omega)] at g1'
        simp only [if_neg c1]
        rw [g1'.1, if_pos rfl]
        exact ⟨u1, rfl, F1, by decide, g1'.2⟩
def sc0 (u : HS) (s : Nat) : SV := (0, fun k j => gI u 65 (24 * s + k) j, 0, fun t j => gI u 69 (8 * s + t) j)
/-- the class reads a scene -/
theorem cSceneR {B : Nat → Int32} {n i : Nat} {u : HS} (st : Nat → Nat → Int32) (c : SV) (hc : sN c = 0 ∧ sT c = 0) (h : LexC B n 0 u) (h5 : gI u 5 0 5 = 0) (h6 : gI u 5 0 6 = -1) : ∃ u', mX3_read u i = some u' ∧ SFr i u u' ∧ match scS st B n 25 (sk B n 0) c with | .ok c' => gI u' 5 0 5 = 0 ∧ gI u' 5 0 6 = -1 ∧ SRd u' i c' ∧ SWF c' ∧ sN c' ≤ 24 ∧ sT c' ≤ 8 | .error (κ, q) => κ ≠ 0 ∧ gI u' 5 0 5 = κ ∧ gI u' 5 0 6 = nI q := by
  obtain ⟨v, hv⟩ : ∃ v, v = wI (wI (wI (wI (wI (wI (wI u 3 i 0 0) 3 i 3 0) 3 i 5 0) 3 i 7 0) 3 i 9 (-1)) 3 i 10 (-1)) 3 i 11 0 := ⟨_, rfl⟩
  have V : ∀ r, r ≠ 3 → gI v r = gI u r := fun r hr => by rw [hv, gI_r hr, gI_r hr, gI_r hr, gI_r hr, gI_r hr, gI_r hr, gI_r hr]
  have G : ∀ k, gI v 3 i k = if k = 11 then 0 else if k = 10 then -1 else if k = 9 then -1 else if k = 7 then 0 else if k = 5 then 0 else if k = 3 then 0 else if k = 0 then 0 else gI u 3 i k := fun k => by rw [hv]; simp only [gI_wI, true_and]
  have kl : ∀ x, klS c x = [] := fun x => by unfold klS; rw [hc.1]; rfl
  have F : SFr i u v := by rw [hv]; exact SFr.rf.w.w.w.w.w.w.w
  have l : LexC B n 0 v := h.cg (V 5 (by decide)) (V 45 (by decide))
  have S : SRd v i c := by
    refine ⟨⟨by rw [G, hc.2]; rfl, by rw [G, kl]; rfl, by rw [G, kl]; rfl, by rw [G, kl]; rfl, ?_, ?_, ?_⟩, fun t ht => by rw [hc.2] at ht; exact absurd ht (Nat.not_lt_zero t), fun j q hq => (by rw [kl] at hq; cases hq), fun j q hq => (by rw [kl] at hq; cases hq), fun j q hq => (by rw [kl] at hq; cases hq)⟩
    · rw [G]; unfold oddS; rw [hc.1]; rfl
    · rw [G]; unfold trnS; rw [hc.1]; rfl
    · rw [G]; unfold endS; rw [hc.1]; rfl
  have W : SWF c := ⟨fun k hk => by rw [hc.1] at hk; exact absurd hk (Nat.not_lt_zero k), fun t ht => by rw [hc.2] at ht; exact absurd ht (Nat.not_lt_zero t)⟩
  unfold mX3_read
  simp only [bd_q, jp_q]
  rw [← hv]
  obtain ⟨u', e, f, m⟩ := cSceneL (i := i) st 25 0 FU (sk B n 0) v c rfl (FU_lt (by decide)) ⟨⟨0, l, rfl⟩, by rw [V 5 (by decide)]; exact h5, by rw [V 5 (by decide)]; exact h6⟩ S W hc.1 (by omega) (by omega)
  exact ⟨u', e, F.tr f, m⟩
