/-! colours -/
def tuP (c : SV) (t : Int32) (k : Nat) : Bool := decide (sC c k 0 = 4) && decide (sC c k 1 = t)
theorem colO_la {c : SV} {t τ : Int32} : colO c t τ = laO (tuP c t) (fun k => sC c k 2) (sN c) τ := nrfl rfl
theorem tuP_tm {c : SV} (hc : SWF c) {t : Int32} : ∀ k, k < sN c → tuP c t k = true → ∃ a, a < 300 ∧ sC c k 2 = nI a := fun k hk hp => by
  unfold tuP at hp
  simp only [Bool.and_eq_true, decide_eq_true_eq] at hp
  exact (hc.k4 hk hp.1).2.1
theorem tuP_cl {c : SV} (hc : SWF c) {t : Int32} : ∀ k, k < sN c → tuP c t k = true → sC c k 3 ≠ -1 := fun k hk hp => by
  unfold tuP at hp
  simp only [Bool.and_eq_true, decide_eq_true_eq] at hp
  obtain ⟨-, -, z, hz, e⟩ := hc.k4 hk hp.1
  rw [e]; exact nI_m1 (by omega)
theorem cTurns {i : Nat} {u : HS} {c : SV} (hS : SRd u i c) (hc : SWF c) (hN : sN c ≤ 24) (hT : sT c ≤ 8) (r2 : gR u (10 + i) = 300 * sT c) (h43 : ∀ k, k < 300 * sT c → gI u 43 i k = -1) : ∃ u', (∀ w, mX3_settle_L88 i w FU 0 u = w u') ∧ TF i u u' ∧ gI u' 42 = gI u 42 ∧ ∀ t τ, t < sT c → τ < 300 → gI u' 43 i (300 * t + τ) = (exO (tuP c (nI t)) (fun k => sC c k 2) (sN c) τ).elim (-1) fun k => sC c k 3 := by
  obtain ⟨⟨g0, -, -, g7, -⟩, -, -, -, g41⟩ := hS
  have hl := klS_len2 (x := 4) hN
  have key : ∃ u', (∀ w, mX3_settle_L88 i w FU 0 u = w u') ∧ TF i u u' ∧ gI u' 42 = gI u 42 ∧ ∀ t τ, t < sT c → τ < 300 → gI u' 43 i (300 * t + τ) = (klS c 4).foldl (fun v k => if (tuP c (nI t) k && decide (sC c k 2 = nI τ)) = true then sC c k 3 else v) (-1) := by
    refine loopR (fun fu (a : HS) y => fun w => mX3_settle_L88 i w fu y a) (klS c 4).length 0 (fun j a => TF i u a ∧ gI a 42 = gI u 42 ∧ ∀ t τ, t < sT c → τ < 300 → gI a 43 i (300 * t + τ) = ((klS c 4).take j).foldl (fun v k => if (tuP c (nI t) k && decide (sC c k 2 = nI τ)) = true then sC c k 3 else v) (-1)) (fun o => ∃ u', (∀ w, o w = w u') ∧ TF i u u' ∧ gI u' 42 = gI u 42 ∧ ∀ t τ, t < sT c → τ < 300 → gI u' 43 i (300 * t + τ) = (klS c 4).foldl (fun v k => if (tuP c (nI t) k && decide (sC c k 2 = nI τ)) = true then sC c k 3 else v) (-1)) ?_ ?_ (klS c 4).length 0 u FU (Nat.le_refl _) (by omega) (FU_lt (by omega)) ⟨TF.rf, rfl, fun t τ ht hτ => by rw [List.take_zero]; exact h43 _ (by omega)⟩
    · intro fu a j _ hj ⟨a1, a2, a3⟩ ih
      obtain ⟨q, hq⟩ : ∃ q, (klS c 4)[j]? = some q := ⟨_, List.getElem?_eq_getElem hj⟩
      obtain ⟨hk, hk0⟩ := klS_at hq
      obtain ⟨⟨t0, ht0, e1⟩, ⟨b, hb, e2⟩, z0, hz0, e3⟩ := hc.k4 hk hk0
      have g : ∀ x, x < 3 → gI a 41 i (3 * j + x) = sC c q (x + 1) := fun x hx => by rw [a1.1 41 (by decide) (by decide)]; exact g41 j q hq x hx
      have ga : gI a 41 i (3 * j) = nI t0 := (g 0 (by decide)).trans e1
      have gb : gI a 41 i (3 * j + 1) = nI b := (g 1 (by decide)).trans e2
      have gc : gI a 41 i (3 * j + 2) = sC c q 3 := g 2 (by decide)
      have q0 : ck 72 (nI (3 * j)) = some (3 * j) := ck_nI (by omega) (by decide)
      have q1 : ck 72 (nI (3 * j) + 1) = some (3 * j + 1) := ck72 (j := 1) (by omega) (by decide)
      have q2 : ck 72 (nI (3 * j) + 2) = some (3 * j + 2) := ck72 (j := 2) (by omega) (by decide)
      have e : ∀ w, mX3_settle_L88 i w (fu + 1) (nI j) a = mX3_settle_L88 i w fu (nI (j + 1)) (wI a 43 i (300 * t0 + b) (sC c q 3)) := fun w => by
        rw [mX3_settle_L88.eq_2, a1.1 3 (by decide) (by decide), g7, if_neg (nI_ge hj (by omega)), show (nI j * 3 : Int32) = nI (3 * j) from by rw [show (nI j * 3 : Int32) = nI (j * 3) from pk_mul j 3, Nat.mul_comm]]
        simp only [bd_q, q0, q1, q2, ob_q, ga, gb, gc]
        rw [n300, nI_add, a1.2.2, r2, ck_nI (show t0 * 300 + b < 300 * sT c by omega) (by omega), Nat.mul_comm t0]
        simp only [ob_q, nI_1]
      have htake : (klS c 4).take (j + 1) = (klS c 4).take j ++ [q] := by rw [List.take_succ, hq]; rfl
      obtain ⟨u', p1, p2⟩ := ih (wI a 43 i (300 * t0 + b) (sC c q 3)) ⟨a1.w (Or.inr rfl), by rw [gI_r (by decide)]; exact a2, fun t τ ht hτ => by
        rw [htake, List.foldl_append, ← a3 t τ ht hτ]
        show _ = if (tuP c (nI t) q && decide (sC c q 2 = nI τ)) = true then sC c q 3 else gI a 43 i (300 * t + τ)
        have hw : (tuP c (nI t) q && decide (sC c q 2 = nI τ)) = true ↔ 300 * t + τ = 300 * t0 + b := by
          unfold tuP
          simp only [Bool.and_eq_true, decide_eq_true_eq, hk0, e1, e2, true_and, nI_eq (show t0 < 2 ^ 31 by omega) (show t < 2 ^ 31 by omega), nI_eq (show b < 2 ^ 31 by omega) (show τ < 2 ^ 31 by omega)]
          omega
        by_cases cw : (tuP c (nI t) q && decide (sC c q 2 = nI τ)) = true
        · rw [if_pos cw, hw.mp cw, gI_eq]
        · rw [if_neg cw, gI_k (fun z => cw (hw.mpr z))]⟩
      exact ⟨u', fun w => (e w).trans (p1 w), p2⟩
    · intro fu a ⟨a1, a2, a3⟩
      refine ⟨a, fun w => ?_, a1, a2, fun t τ ht hτ => by rw [a3 t τ ht hτ, List.take_length]⟩
      show mX3_settle_L88 i w (fu + 1) (nI (klS c 4).length) a = w a
      rw [mX3_settle_L88.eq_2, a1.1 3 (by decide) (by decide), g7, if_pos (nI_le (Nat.le_refl _) (by omega))]
  obtain ⟨u', k1, k2, k3, k4⟩ := key
  refine ⟨u', k1, k2, k3, fun t τ ht hτ => ?_⟩
  rw [k4 t τ ht hτ, foldl_klS (g := fun v k => if (tuP c (nI t) k && decide (sC c k 2 = nI τ)) = true then sC c k 3 else v) (fun _ _ _ _ => rfl) (fun a k hk h0 => by
    rw [if_neg]
    unfold tuP
    rw [decide_eq_false h0, Bool.false_and, Bool.false_and]
    decide)]
  exact foldl_elim (P := fun k => tuP c (nI t) k && decide (sC c k 2 = nI τ)) (f := fun k => sC c k 3) (d := -1) (List.range (sN c)) none
theorem held2 {c : SV} (hc : SWF c) {t : Nat} {τ : Nat} (hτ : τ < 300) (own : Int32) : (if (exO (tuP c (nI t)) (fun k => sC c k 2) (sN c) τ).elim (-1) (fun k => sC c k 3) = -1 then (if τ = 0 then own else (colO c (nI t) (nI (τ - 1))).elim own fun k => sC c k 3) else (exO (tuP c (nI t)) (fun k => sC c k 2) (sN c) τ).elim (-1) fun k => sC c k 3) = (colO c (nI t) (nI τ)).elim own fun k => sC c k 3 := by
  rw [colO_la, colO_la]
  cases hx : exO (tuP c (nI t)) (fun k => sC c k 2) (sN c) τ with
  | none =>
    rw [if_pos (show (none : Option Nat).elim (-1) (fun k => sC c k 3) = -1 from rfl)]
    by_cases h0 : τ = 0
    · subst h0
      rw [if_pos rfl, lat_0 (tuP_tm hc) _ (Nat.le_refl _), hx]; rfl
    · obtain ⟨z, rfl⟩ : ∃ z, τ = z + 1 := ⟨τ - 1, by omega⟩
      rw [if_neg h0, lat_step (tuP_tm hc) _ (Nat.le_refl _) z (by omega), hx]; rfl
  | some q =>
    obtain ⟨h1, h2, -⟩ := exO_lt hx
    rw [if_neg (show ¬ (some q).elim (-1) (fun k => sC c k 3) = -1 from tuP_cl hc q h1 h2)]
    by_cases h0 : τ = 0
    · subst h0
      rw [lat_0 (tuP_tm hc) _ (Nat.le_refl _), hx]; rfl
    · obtain ⟨z, rfl⟩ : ∃ z, τ = z + 1 := ⟨τ - 1, by omega⟩
      rw [lat_step (tuP_tm hc) _ (Nat.le_refl _) z (by omega), hx]; rfl
theorem cTints {i t : Nat} {u : HS} {c : SV} (hc : SWF c) (hT : sT c ≤ 8) (ht : t < sT c) (h37 : gI u 37 i t = sH c t 0) (r2 : gR u (10 + i) = 300 * sT c) (h43 : ∀ τ, τ < 300 → gI u 43 i (300 * t + τ) = (exO (tuP c (nI t)) (fun k => sC c k 2) (sN c) τ).elim (-1) fun k => sC c k 3) : ∃ u', mX3_settleTints u i (nI t) = some u' ∧ TF i u u' ∧ gI u' 42 = gI u 42 ∧ (∀ τ, τ < 300 → gI u' 43 i (300 * t + τ) = colS c (nI t) (nI τ)) ∧ ∀ z, (z < 300 * t ∨ 300 * t + 300 ≤ z) → gI u' 43 i z = gI u 43 i z := by
  have hV : ∀ τ, colS c (nI t) (nI τ) = (colO c (nI t) (nI τ)).elim (sH c t 0) fun k => sC c k 3 := fun τ => by unfold colS; rw [nI_clamp (by omega)]
  unfold mX3_settleTints
  rw [ck_nI (show t < 8 by omega) (by decide)]
  simp only [ob_q, bd_q, jp_q, h37, n300]
  rw [show t * 300 = 300 * t + 0 from by omega]
  refine loopR (fun fu (a : Int32 × HS) y => mX3_settleTints_L13 (nI t) i (fun u107 => some u107) fu a.1 y a.2) (300 * t + 300) (300 * t) (fun k a => a.1 = (if k = 300 * t then sH c t 0 else colS c (nI t) (nI (k - 300 * t - 1))) ∧ TF i u a.2 ∧ gI a.2 42 = gI u 42 ∧ (∀ τ, τ < 300 → gI a.2 43 i (300 * t + τ) = if 300 * t + τ < k then colS c (nI t) (nI τ) else gI u 43 i (300 * t + τ)) ∧ ∀ z, (z < 300 * t ∨ 300 * t + 300 ≤ z) → gI a.2 43 i z = gI u 43 i z) (fun o => ∃ u', o = some u' ∧ TF i u u' ∧ gI u' 42 = gI u 42 ∧ (∀ τ, τ < 300 → gI u' 43 i (300 * t + τ) = colS c (nI t) (nI τ)) ∧ ∀ z, (z < 300 * t ∨ 300 * t + 300 ≤ z) → gI u' 43 i z = gI u 43 i z) ?_ ?_ 300 (300 * t + 0) (sH c t 0, u) FU (by omega) (by omega) (FU_lt (by omega)) ⟨by rw [if_pos (by omega)], TF.rf, rfl, fun τ hτ => by rw [if_neg (by omega)], fun z _ => rfl⟩
  · intro fu ⟨x, a⟩ k hlo hk ⟨a0, a1, a2, a3, a4⟩ ih
    show ∃ u', mX3_settleTints_L13 (nI t) i (fun u107 => some u107) (fu + 1) x (nI k) a = some u' ∧ _
    simp only at a0 a1 a2 a3 a4
    obtain ⟨τ, hτ, rfl⟩ : ∃ τ, τ < 300 ∧ k = 300 * t + τ := ⟨k - 300 * t, by omega, by omega⟩
    have gr : gR a (10 + i) = 300 * sT c := by rw [a1.2.2, r2]
    have kk : ck (300 * sT c) (nI (300 * t + τ)) = some (300 * t + τ) := ck_nI (by omega) (by omega)
    have v := held2 hc (t := t) hτ (sH c t 0)
    rw [← hV τ] at v
    have g43 : gI a 43 i (300 * t + τ) = (exO (tuP c (nI t)) (fun k => sC c k 2) (sN c) τ).elim (-1) fun k => sC c k 3 := by rw [a3 τ hτ, if_neg (by omega)]; exact h43 τ hτ
    have hx : x = if τ = 0 then sH c t 0 else (colO c (nI t) (nI (τ - 1))).elim (sH c t 0) fun k => sC c k 3 := by
      rw [a0]
      by_cases e : τ = 0
      · rw [if_pos (by omega), if_pos e]
      · rw [if_neg (by omega), if_neg e, ← hV, show 300 * t + τ - 300 * t - 1 = τ - 1 by omega]
    rw [mX3_settleTints_L13.eq_2, show (nI t + 1) * 300 = nI (300 * t + 300) from by rw [nI_1, n300]; congr 1; omega, if_neg (nI_ge hk (by omega)), gr, kk]
    simp only [ob_q, bd_q, nI_1]
    rw [← g43, ← hx] at v
    by_cases e : gI a 43 i (300 * t + τ) = -1
    · rw [if_pos e] at v ⊢
      simp only [ob_q]
      have gr' : gR (wI a 43 i (300 * t + τ) x) (10 + i) = 300 * sT c := gr
      rw [gr', kk]
      simp only [ob_q, gI_eq]
      refine ih (x, wI a 43 i (300 * t + τ) x) ⟨?_, a1.w (Or.inr rfl), by rw [gI_r (by decide)]; exact a2, fun τ' hτ' => ?_, fun z hz => by rw [gI_k (by omega)]; exact a4 z hz⟩
      · rw [if_neg (by omega), show 300 * t + τ + 1 - 300 * t - 1 = τ by omega]; exact v
      · by_cases e2 : τ' = τ
        · rw [e2, gI_eq, if_pos (by omega)]; exact v
        · rw [gI_k (by omega), a3 τ' hτ']
          by_cases e3 : 300 * t + τ' < 300 * t + τ
          · rw [if_pos e3, if_pos (by omega)]
          · rw [if_neg e3, if_neg (by omega)]
    · rw [if_neg e] at v ⊢
      simp only [ob_q, gr, kk]
      refine ih (gI a 43 i (300 * t + τ), a) ⟨?_, a1, a2, fun τ' hτ' => ?_, a4⟩
      · rw [if_neg (by omega), show 300 * t + τ + 1 - 300 * t - 1 = τ by omega]; exact v
      · by_cases e2 : τ' = τ
        · rw [e2, if_pos (by omega)]; exact v
        · rw [a3 τ' hτ']
          by_cases e3 : 300 * t + τ' < 300 * t + τ
          · rw [if_pos e3, if_pos (by omega)]
          · rw [if_neg e3, if_neg (by omega)]
  · intro fu ⟨x, a⟩ ⟨a0, a1, a2, a3, a4⟩
    show ∃ u', mX3_settleTints_L13 (nI t) i (fun u107 => some u107) (fu + 1) x (nI (300 * t + 300)) a = some u' ∧ _
    rw [mX3_settleTints_L13.eq_2, show (nI t + 1) * 300 = nI (300 * t + 300) from by rw [nI_1, n300]; congr 1; omega, if_pos (nI_le (Nat.le_refl _) (by omega))]
    exact ⟨a, rfl, a1, a2, fun τ hτ => by rw [a3 τ hτ, if_pos (by omega)], a4⟩
