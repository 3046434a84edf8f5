/-! things as a scene's clauses tell them -/
def cn0 (c : SV) (k : Nat) : Nat := (List.range k).countP fun i => decide (sC c i 0 = 0)
theorem cn0_s {c : SV} {k : Nat} : cn0 c (k + 1) = cn0 c k + if sC c k 0 = 0 then 1 else 0 := by
  unfold cn0
  rw [List.range_succ, List.countP_append]
  congr 1
  rw [List.countP_cons, List.countP_nil]
  by_cases h : sC c k 0 = 0
  · simp [h]
  · simp [h]
theorem cn0_cg {c c' : SV} {k : Nat} (h : ∀ i, i < k → sC c' i 0 = sC c i 0) : cn0 c' k = cn0 c k := by
  induction k with
  | zero => rfl
  | succ k ih => rw [cn0_s, cn0_s, ih (fun i hi => h i (by omega)), h k (by omega)]
theorem cn0_le {c : SV} {a b : Nat} (h : a ≤ b) : cn0 c a ≤ cn0 c b := by
  induction h with
  | refl => exact Nat.le_refl _
  | step h ih => rw [cn0_s]; omega
def STh (c : SV) : Prop := sT c = cn0 c (sN c) ∧ ∀ k, k < sN c → sC c k 0 = 0 → sH c (cn0 c k) 0 = sC c k 1 ∧ sH c (cn0 c k) 1 = sC c k 2
theorem STh.A {st : Nat → Nat → Int32} {c : SV} {j : Nat} {a : List Nat} (h : STh c) (hj : j < 5) (ha : aOK (sT c) j a) : STh (scA st c j a) := by
  obtain ⟨h1, h2⟩ := h
  have e0 : ∀ k, k ≤ sN c → cn0 (scA st c j a) k = cn0 c k := fun k hk => cn0_cg fun i hi => scA_o (by omega)
  refine ⟨?_, fun k hk hk0 => ?_⟩
  · rw [scA_t, scA_n, cn0_s, e0 _ (Nat.le_refl _), scA_0, h1]
    by_cases e : j = 0
    · rw [if_pos e, if_pos (show nI j = 0 by rw [e]; rfl)]
    · rw [if_neg e, if_neg (show ¬ nI j = 0 from fun q => e ((nI_eq (b := 0) (by omega) (by decide)).mp q))]; rfl
  · rw [scA_n] at hk
    rw [e0 k (by omega)]
    show (if j = 0 ∧ cn0 c k = sT c ∧ 0 < 2 then nI (a.getD 0 0) else sH c (cn0 c k) 0) = _ ∧ (if j = 0 ∧ cn0 c k = sT c ∧ 1 < 2 then nI (a.getD 1 0) else sH c (cn0 c k) 1) = _
    by_cases e : k = sN c
    · subst e
      rw [scA_0] at hk0
      have j0 : j = 0 := (nI_eq (b := 0) (by omega) (by decide)).mp hk0
      obtain ⟨z, s, ea, -⟩ := ha.1 j0
      rw [if_pos ⟨j0, h1.symm, by decide⟩, if_pos ⟨j0, h1.symm, by decide⟩, scA_x (x := 0) (by rw [ea]; simp), scA_x (x := 1) (by rw [ea]; simp)]
      exact ⟨rfl, rfl⟩
    · have hk' : k < sN c := by omega
      rw [scA_o hk'] at hk0
      have : cn0 c k ≠ sT c := by
        rw [h1]
        have a1 : cn0 c (k + 1) = cn0 c k + 1 := by rw [cn0_s, if_pos hk0]
        have a2 := cn0_le (c := c) (show k + 1 ≤ sN c by omega)
        omega
      rw [if_neg (fun q => this q.2.1), if_neg (fun q => this q.2.1), scA_o hk', scA_o hk']
      exact h2 k hk' hk0
/-- what is not written is as it was -/
def SXt (g : Nat → Nat → Int32) (g2 : Nat → Nat → Int32) (c : SV) : Prop := (∀ k x, sN c ≤ k ∨ 8 ≤ x → sC c k x = g k x) ∧ ∀ t x, sT c ≤ t ∨ 2 ≤ x → sH c t x = g2 t x
theorem SXt.A {st g g2 : Nat → Nat → Int32} {c : SV} {j : Nat} {a : List Nat} (h : SXt g g2 c) (hst : ∀ k x, 8 ≤ x → st k x = g k x) (hj : j < 5) (ha : aOK (sT c) j a) : SXt g g2 (scA st c j a) := by
  have la : a.length < 8 := by
    obtain ⟨h0, h1, h2, h3, h4⟩ := ha
    match j, hj with
    | 0, _ => obtain ⟨z, s, e, -⟩ := h0 rfl; rw [e]; simp
    | 1, _ => obtain ⟨t, b, x, y, e', x', y', e, -⟩ := h1 rfl; rw [e]; simp
    | 2, _ => obtain ⟨t, g, e', e, -⟩ := h2 rfl; rw [e]; simp
    | 3, _ => obtain ⟨t, e, -⟩ := h3 rfl; rw [e]; simp
    | 4, _ => obtain ⟨t, e', z, e, -⟩ := h4 rfl; rw [e]; simp
  refine ⟨fun k x hk => ?_, fun t x ht => ?_⟩
  · rw [scA_n] at hk
    show (if k = sN c then (if x = 0 then nI j else if x ≤ a.length then nI (a.getD (x - 1) 0) else st (sN c) x) else sC c k x) = _
    by_cases e : k = sN c
    · rw [if_pos e, if_neg (by omega), if_neg (by omega), e]
      exact hst _ _ (by omega)
    · rw [if_neg e]
      exact h.1 k x (by omega)
  · rw [scA_t] at ht
    show (if j = 0 ∧ t = sT c ∧ x < 2 then nI (a.getD x 0) else sH c t x) = _
    by_cases e : j = 0 ∧ t = sT c ∧ x < 2
    · rw [if_pos e.1] at ht; omega
    · rw [if_neg e]
      refine h.2 t x ?_
      split at ht <;> omega
theorem scS_all {st g g2 : Nat → Nat → Int32} {B : Nat → Int32} {n : Nat} (hst : ∀ k x, 8 ≤ x → st k x = g k x) : ∀ (d p : Nat) (c c' : SV), scS st B n d p c = .ok c' → sT c ≤ 8 → STh c → SXt g g2 c → STh c' ∧ SXt g g2 c' := by
  intro d
  induction d with
  | zero => intro p c c' h _ h1 h2; injection h with h; rw [← h]; exact ⟨h1, h2⟩
  | succ d ih =>
    intro p c c' h hT h1 h2
    unfold scS at h
    cases hw : wdO 16 B n p with
    | none =>
      rw [hw] at h
      simp only at h
      split at h
      · injection h with h; rw [← h]; exact ⟨h1, h2⟩
      · cases h
    | some j =>
      rw [hw] at h
      have hj := wd16_lt hw
      simp only at h
      split at h
      · split at h
        · cases h
        · rename_i c8
          cases hN : scN B n (sk B n (wsE B n p)) (sT c) j with
          | error e => rw [hN] at h; cases h
          | ok aq =>
            obtain ⟨a, q⟩ := aq
            rw [hN] at h
            simp only at h
            have ha := scN_ok hT hN
            split at h
            · refine ih _ _ _ h ?_ (h1.A hj ha) (h2.A hst hj ha)
              rw [scA_t]
              by_cases e0 : j = 0
              · rw [if_pos e0]
                have : sT c ≠ 8 := fun q => c8 ⟨e0, q⟩
                omega
              · rw [if_neg e0]; exact hT
            · cases h
      · cases h
/-- the reference's row of clauses -/
def RW (st : Nat → Nat → Int32) (u : HS) (c : SV) : Prop := (∀ k x, x < 8 → gI u 63 k x = if k < sN c then sC c k x else st k x) ∧ gI u 9 0 9 = nI (sN c) ∧ gI u 9 0 10 = nI (sT c)
theorem wd16_end {B : Nat → Int32} {n : Nat} : wdO 16 B n n = none := by
  have e : wsE B n n - sk B n n = 0 := by unfold wsE; rw [sk_n, wh_n, Nat.sub_self]
  have f : ∀ w : List Int32, w.length ≠ 0 → eqW B (sk B n n) 0 w = false := fun w hw => by unfold eqW; rw [decide_eq_false hw, Bool.false_and]
  rw [wd16, e, f _ (by decide), f _ (by decide), f _ (by decide), f _ (by decide), f _ (by decide)]
  rfl
theorem tSceneL {B : Nat → Int32} {n : Nat} {w : HS → Option (Int32 × HS)} (st : Nat → Nat → Int32) : ∀ (d fu p : Nat) (u : HS) (c : SV), sN c + d = 25 → d + 1 < fu → LexR B n p u → sk B n p = p → gI u 9 0 6 = 0 → gI u 9 0 7 = -1 → RW st u c → sN c ≤ 24 → sT c ≤ 8 → ∃ u', mX9_scene_L56 w fu u = w u' ∧ Fr [63] [4, 6, 7, 9, 10] u u' ∧ match scS st B n d p c with | .ok c' => gI u' 9 0 6 = 0 ∧ gI u' 9 0 7 = -1 ∧ RW st u' c' | .error (κ, q) => gI u' 9 0 6 = κ ∧ gI u' 9 0 7 = nI q := by
  intro d
  induction d with
  | zero => intro fu p u c h1 _ _ _ _ _ _ h3 _; omega
  | succ d ih =>
    intro fu p u c h1 h2 h hp h6 h7 hR hN hT
    obtain ⟨z, rfl⟩ : ∃ z, fu = z + 1 + 1 := ⟨fu - 2, by omega⟩
    obtain ⟨hR1, hR2, hR3⟩ := hR
    have hn := h.2.1
    have hpn := h.2.2.2.1
    rw [mX9_scene_L56.eq_2, if_pos h6, h.1, h.2.2.1]
    by_cases c0 : p = n
    · subst c0
      rw [if_pos (nI_le (Nat.le_refl _) (by omega))]
      refine ⟨u, rfl, Fr.rf, ?_⟩
      unfold scS
      simp only [wd16_end, if_true]
      exact ⟨h6, h7, hR1, hR2, hR3⟩
    · rw [if_neg (nI_ge (show p < n by omega) (by omega))]
      obtain ⟨u1, e1, f1, i1, g1⟩ := tSceneC h hp h6 h7 hR2 hN hR3 hT
      rw [e1]
      simp only [ob_q]
      -- a fault ends it
      have fin : ∀ e : Int32 × Nat, RPs B n (.error e) u1 → ∃ u', ((mX9_blanks u1).bind fun u168 => mX9_scene_L56 w (z + 1) u168) = w u' ∧ Fr [63] [4, 6, 7, 9, 10] u u' ∧ gI u' 9 0 6 = e.1 ∧ gI u' 9 0 7 = nI e.2 := fun e he => by
        obtain ⟨u2, e2, f2, r2, -⟩ := tBlS (.error e) he
        obtain ⟨-, r0, r6, r7⟩ := r2
        rw [e2]
        simp only [ob_q]
        rw [mX9_scene_L56.eq_2, if_neg (by rw [r6]; exact r0)]
        exact ⟨u2, rfl, f1.tr (f2.mo (by simp) (by decide)), r6, r7⟩
      unfold scS
      cases hw : wdO 16 B n p with
      | none =>
        rw [hw] at g1
        simp only [if_neg c0]
        exact fin (1, p) g1
      | some j =>
        rw [hw] at g1
        have hj5 := wd16_lt hw
        simp only at g1 ⊢
        by_cases c1 : sN c < 24
        · rw [if_pos c1] at g1
          simp only [if_pos c1]
          by_cases c8 : j = 0 ∧ sT c = 8
          · rw [if_pos c8] at g1
            simp only [if_pos c8]
            exact fin (3, p) g1
          · rw [if_neg c8] at g1
            simp only [if_neg c8]
            cases hS : scN B n (sk B n (wsE B n p)) (sT c) j with
            | error e =>
              rw [hS] at g1
              exact fin e g1
            | ok aq =>
              obtain ⟨a, q⟩ := aq
              rw [hS] at g1
              obtain ⟨r1, n9, n10, x0, xa, xb⟩ := g1
              cases hG : sgB B n q 59 with
              | false =>
                simp only [hG, Bool.false_eq_true, if_false]
                rw [stG_f hG] at r1
                exact fin (1, q) r1
              | true =>
                simp only [hG, if_true]
                rw [stG_t hG] at r1
                obtain ⟨u2, e2, f2, r2, r3⟩ := tBlS (.ok (sk B n (q + 1))) r1
                have l2 := r3 _ rfl
                have hsk : sk B n (sk B n (q + 1)) = sk B n (q + 1) := by
                  obtain ⟨⟨p', l', hs'⟩, -⟩ := r1
                  exact sk_of l'.2.2.2.1 hs'
                have RW2 : RW st u2 (scA st c j a) := by
                  refine ⟨fun k x hx => ?_, by rw [f2.2.1 9 (by decide), n9]; rfl, by rw [f2.2.1 10 (by decide), n10]; rfl⟩
                  rw [f2.1 63 (by simp) (by decide), scA_n]
                  by_cases ek : k = sN c
                  · subst ek
                    rw [if_pos (by omega)]
                    show _ = if sN c = sN c then (if x = 0 then nI j else if x ≤ a.length then nI (a.getD (x - 1) 0) else st (sN c) x) else sC c (sN c) x
                    rw [if_pos rfl]
                    by_cases ex : x = 0
                    · rw [if_pos ex, ex, x0]
                    · rw [if_neg ex]
                      by_cases ey : x ≤ a.length
                      · rw [if_pos ey]
                        have := xa (x - 1) (by omega)
                        rw [show x - 1 + 1 = x by omega] at this
                        exact this
                      · rw [if_neg ey, xb x (by omega), hR1 _ _ hx, if_neg (by omega)]
                  · rw [i1 k ek, hR1 k x hx]
                    by_cases ek2 : k < sN c
                    · rw [if_pos ek2, if_pos (by omega), scA_o ek2]
                    · rw [if_neg ek2, if_neg (by omega)]
                have T8 : sT (scA st c j a) ≤ 8 := by
                  rw [scA_t]
                  by_cases e0 : j = 0
                  · rw [if_pos e0]
                    have : sT c ≠ 8 := fun q => c8 ⟨e0, q⟩
                    omega
                  · rw [if_neg e0]; exact hT
                obtain ⟨u', e', f', m'⟩ := ih (z + 1) _ u2 (scA st c j a) (by rw [scA_n]; omega) (by omega) l2 hsk r2.2.1 r2.2.2 RW2 (by rw [scA_n]; omega) T8
                rw [e2]
                exact ⟨u', e', (f1.tr (f2.mo (by simp) (by decide))).tr f', m'⟩
        · rw [if_neg c1] at g1
          simp only [if_neg c1]
          exact fin (3, p) g1
