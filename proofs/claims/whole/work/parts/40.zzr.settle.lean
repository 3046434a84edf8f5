/-! ===== the class settles a scene: its tables ===== -/
def TF (i : Nat) (u v : HS) : Prop := (∀ r, r ≠ 42 → r ≠ 43 → gI v r = gI u r) ∧ (∀ r k, k ≠ i → gI v r k = gI u r k) ∧ gR v = gR u
theorem TF.rf {i : Nat} {u : HS} : TF i u u := ⟨fun _ _ _ => rfl, fun _ _ _ => rfl, rfl⟩
theorem TF.tr {i : Nat} {u v w : HS} (h : TF i u v) (h2 : TF i v w) : TF i u w := ⟨fun r a b => (h2.1 r a b).trans (h.1 r a b), fun r k a => (h2.2.1 r k a).trans (h.2.1 r k a), h2.2.2.trans h.2.2⟩
theorem TF.w {i : Nat} {u v : HS} {r k : Nat} {x : Int32} (h : TF i u v) (hr : r = 42 ∨ r = 43) : TF i u (wI v r i k x) := ⟨fun r' a b => by rw [gI_r (by omega)]; exact h.1 r' a b, fun r' k' a => by
    by_cases e : r' = r
    · rw [e, gI_ri a]; exact h.2.1 r k' a
    · rw [gI_r e]; exact h.2.1 r' k' a, h.2.2⟩
theorem cClr {i T : Nat} {u : HS} (hT : T ≤ 8) (h0 : gI u 3 i 0 = nI T) (r1 : gR u (3 + i) = 300 * T) (r2 : gR u (10 + i) = 300 * T) : ∃ u', (∀ w, mX3_settle_L30 i w FU 0 u = w u') ∧ TF i u u' ∧ ∀ k, k < 300 * T → gI u' 42 i k = -1 ∧ gI u' 43 i k = -1 := by
  refine loopR (fun fu (a : HS) y => fun w => mX3_settle_L30 i w fu y a) (300 * T) 0 (fun m a => TF i u a ∧ ∀ k, k < m → gI a 42 i k = -1 ∧ gI a 43 i k = -1) (fun o => ∃ u', (∀ w, o w = w u') ∧ TF i u u' ∧ ∀ k, k < 300 * T → gI u' 42 i k = -1 ∧ gI u' 43 i k = -1) ?_ ?_ (300 * T) 0 u FU (Nat.le_refl _) (by omega) (FU_lt (by omega)) ⟨TF.rf, fun k hk => absurd hk (Nat.not_lt_zero k)⟩
  · intro fu a m _ hm ⟨a1, a2⟩ ih
    have e : ∀ w, mX3_settle_L30 i w (fu + 1) (nI m) a = mX3_settle_L30 i w fu (nI (m + 1)) (wI (wI a 42 i m (-1)) 43 i m (-1)) := fun w => by
      have g : gR (wI a 42 i m (-1)) (10 + i) = 300 * T := by rw [show gR (wI a 42 i m (-1)) = gR a from rfl, a1.2.2, r2]
      rw [mX3_settle_L30.eq_2, a1.1 3 (by decide) (by decide), h0, n300, if_neg (nI_ge (by omega) (by omega)), a1.2.2, r1, ck_nI hm (by omega)]
      simp only [ob_q, bd_q, g, nI_1]
      rw [ck_nI hm (by omega)]
      simp only [ob_q]
    obtain ⟨u', q1, q2⟩ := ih (wI (wI a 42 i m (-1)) 43 i m (-1)) ⟨(a1.w (Or.inl rfl)).w (Or.inr rfl), fun k hk => by
      by_cases c : k = m
      · rw [c, gI_r (by decide), gI_eq, gI_eq]; exact ⟨rfl, rfl⟩
      · rw [gI_r (by decide), gI_k c, gI_k c, gI_r (by decide)]; exact a2 k (by omega)⟩
    exact ⟨u', fun w => (e w).trans (q1 w), q2⟩
  · intro fu a ⟨a1, a2⟩
    refine ⟨a, fun w => ?_, a1, a2⟩
    show mX3_settle_L30 i w (fu + 1) (nI (300 * T)) a = w a
    rw [mX3_settle_L30.eq_2, a1.1 3 (by decide) (by decide), h0, n300, if_pos (nI_le (by omega) (by omega))]
/-- a place on a way -/
def wyV (c : SV) (q : Nat) (τ : Nat) : Int32 := plcO c q (nI τ) 0 * 100 + plcO c q (nI τ) 1
theorem cOnW {c : SV} {q b e τ w : Nat} (h2 : sC c q 2 = nI b) (h5 : sC c q 5 = nI e) (hbe : b ≤ e) (he : e < 300) (h1 : b ≤ τ) : ∃ x, mX3_onTheWay (sC c q (6 + w) - sC c q (3 + w)) (nI (τ - b)) (nI (e - b)) = some x ∧ sC c q (3 + w) + x = plcO c q (nI τ) w := by
  unfold mX3_onTheWay plcO
  rw [h2, h5]
  by_cases c0 : b = e
  · subst c0
    rw [Nat.sub_self, if_pos (show nI 0 = 0 from rfl), if_pos rfl]
    exact ⟨0, rfl, Int32.add_zero _⟩
  · have n0 : nI (e - b) ≠ 0 := nI_ne0 (by omega) (by omega)
    rw [if_neg n0, nz_ok n0, if_neg (fun z => c0 ((nI_eq (by omega) (by omega)).mp z)), pk_sub h1, pk_sub hbe]
    exact ⟨_, rfl, rfl⟩
theorem cWay {i j q : Nat} {u : HS} {c : SV} (hc : SWF c) (hN : sN c ≤ 24) (hT : sT c ≤ 8) (hq : (klS c 1)[j]? = some q) (h39 : ∀ a, a < 7 → gI u 39 i (7 * j + a) = sC c q (a + 1)) (r1 : gR u (3 + i) = 300 * sT c) : ∃ u', mX3_settleWay u i (nI (7 * j)) = some u' ∧ TF i u u' ∧ gI u' 43 = gI u 43 ∧ ∀ t τ, t < sT c → τ < 300 → gI u' 42 i (300 * t + τ) = if wayP c (nI t) (nI τ) q = true then wyV c q τ else gI u 42 i (300 * t + τ) := by
  obtain ⟨hk, hk0⟩ := klS_at hq
  have hjl := klS_jlt hq
  have hl := klS_len2 (x := 1) hN
  obtain ⟨⟨t0, ht0, e1⟩, ⟨b, e, hbe, he, e2, e5⟩, -, -⟩ := hc.k1 hk hk0
  have q0 : ck 168 (nI (7 * j)) = some (7 * j) := ck_nI (by omega) (by decide)
  have qa : ∀ a, a < 7 → ck 168 (nI (7 * j) + nI a) = some (7 * j + a) := fun a ha => ck168 (by omega) ha
  have q1 : ck 168 (nI (7 * j) + 1) = some (7 * j + 1) := qa 1 (by decide)
  have q2 : ck 168 (nI (7 * j) + 2) = some (7 * j + 2) := qa 2 (by decide)
  have q3 : ck 168 (nI (7 * j) + 3) = some (7 * j + 3) := qa 3 (by decide)
  have q4 : ck 168 (nI (7 * j) + 4) = some (7 * j + 4) := qa 4 (by decide)
  have q5 : ck 168 (nI (7 * j) + 5) = some (7 * j + 5) := qa 5 (by decide)
  have q6 : ck 168 (nI (7 * j) + 6) = some (7 * j + 6) := qa 6 (by decide)
  unfold mX3_settleWay
  simp only [bd_q, jp_q, q1, q4, ob_q, h39 1 (by decide), h39 4 (by decide), e2, e5, pk_sub hbe]
  have key : ∃ u', mX3_settleWay_L23 (nI (e - b)) (nI (7 * j)) i (nI b) (fun u107 => some u107) FU 0 u = some u' ∧ TF i u u' ∧ gI u' 43 = gI u 43 ∧ ∀ z, gI u' 42 i z = if 300 * t0 + b ≤ z ∧ z < 300 * t0 + b + (e - b + 1) then wyV c q (z - 300 * t0) else gI u 42 i z := by
    refine loopR (fun fu (a : HS) y => mX3_settleWay_L23 (nI (e - b)) (nI (7 * j)) i (nI b) (fun u107 => some u107) fu y a) (e - b + 1) 0 (fun s a => TF i u a ∧ gI a 43 = gI u 43 ∧ ∀ z, gI a 42 i z = if 300 * t0 + b ≤ z ∧ z < 300 * t0 + b + s then wyV c q (z - 300 * t0) else gI u 42 i z) (fun o => ∃ u', o = some u' ∧ TF i u u' ∧ gI u' 43 = gI u 43 ∧ ∀ z, gI u' 42 i z = if 300 * t0 + b ≤ z ∧ z < 300 * t0 + b + (e - b + 1) then wyV c q (z - 300 * t0) else gI u 42 i z) ?_ ?_ (e - b + 1) 0 u FU (Nat.le_refl _) (by omega) (FU_lt (by omega)) ⟨TF.rf, rfl, fun z => by rw [if_neg (by omega)]⟩
    · intro fu a s _ hs ⟨a1, a2, a3⟩ ih
      show ∃ u', mX3_settleWay_L23 (nI (e - b)) (nI (7 * j)) i (nI b) (fun u107 => some u107) (fu + 1) (nI s) a = some u' ∧ _
      have g39 : ∀ x, x < 7 → gI a 39 i (7 * j + x) = sC c q (x + 1) := fun x hx => by rw [a1.1 39 (by decide) (by decide)]; exact h39 x hx
      obtain ⟨x, o1, o2⟩ := cOnW (w := 0) e2 e5 hbe he (show b ≤ b + s by omega)
      obtain ⟨y, o3, o4⟩ := cOnW (w := 1) e2 e5 hbe he (show b ≤ b + s by omega)
      rw [show b + s - b = s by omega] at o1 o3
      have g0 : gI a 39 i (7 * j) = sC c q 1 := g39 0 (by decide)
      rw [mX3_settleWay_L23.eq_2, if_neg (show ¬ nI (e - b) < nI s from nI_nlt (by omega) (by omega))]
      simp only [bd_q, q0, q2, q3, q5, q6, ob_q, g0, g39 2 (by decide), g39 3 (by decide), g39 5 (by decide), g39 6 (by decide)]
      rw [show mX3_onTheWay (sC c q (5 + 1) - sC c q (2 + 1)) (nI s) (nI (e - b)) = some x from o1]
      simp only [ob_q]
      rw [show mX3_onTheWay (sC c q (6 + 1) - sC c q (3 + 1)) (nI s) (nI (e - b)) = some y from o3]
      simp only [ob_q]
      rw [show sC c q (2 + 1) + x = plcO c q (nI (b + s)) 0 from o2, show sC c q (3 + 1) + y = plcO c q (nI (b + s)) 1 from o4, e1, n300, nI_add, nI_add, a1.2.2, r1, ck_nI (show t0 * 300 + b + s < 300 * sT c by omega) (by omega)]
      simp only [ob_q, nI_1]
      refine ih _ ⟨a1.w (Or.inl rfl), by rw [gI_r (by decide)]; exact a2, fun z => ?_⟩
      by_cases cz : z = t0 * 300 + b + s
      · rw [cz, gI_eq, if_pos (by omega)]
        unfold wyV
        rw [show t0 * 300 + b + s - 300 * t0 = b + s by omega]
      · rw [gI_k cz, a3 z]
        by_cases cy : 300 * t0 + b ≤ z ∧ z < 300 * t0 + b + s
        · rw [if_pos cy, if_pos (by omega)]
        · rw [if_neg cy, if_neg (by omega)]
    · intro fu a ha
      show ∃ u', mX3_settleWay_L23 (nI (e - b)) (nI (7 * j)) i (nI b) (fun u107 => some u107) (fu + 1) (nI (e - b + 1)) a = some u' ∧ _
      rw [mX3_settleWay_L23.eq_2, if_pos (nI_lt (by omega) (by omega))]
      exact ⟨a, rfl, ha⟩
  obtain ⟨u', k1, k2, k3, k4⟩ := key
  refine ⟨u', k1, k2, k3, fun t τ ht hτ => ?_⟩
  rw [k4]
  have hw : wayP c (nI t) (nI τ) q = true ↔ (300 * t0 + b ≤ 300 * t + τ ∧ 300 * t + τ < 300 * t0 + b + (e - b + 1)) := by
    unfold wayP
    simp only [Bool.and_eq_true, decide_eq_true_eq, hk0, e1, e2, e5, true_and, nI_eq (show t0 < 2 ^ 31 by omega) (show t < 2 ^ 31 by omega), nI_leI (show b < 2 ^ 31 by omega) (show τ < 2 ^ 31 by omega), nI_leI (show τ < 2 ^ 31 by omega) (show e < 2 ^ 31 by omega)]
    omega
  by_cases cw : wayP c (nI t) (nI τ) q = true
  · rw [if_pos cw, if_pos (hw.mp cw)]
    have : t = t0 := by
      have := hw.mp cw
      omega
    rw [this, Nat.add_sub_cancel_left]
  · rw [if_neg cw, if_neg (fun z => cw (hw.mpr z))]
theorem cWaysT {i : Nat} {u : HS} {c : SV} (hS : SRd u i c) (hc : SWF c) (hN : sN c ≤ 24) (hT : sT c ≤ 8) (r1 : gR u (3 + i) = 300 * sT c) (h42 : ∀ k, k < 300 * sT c → gI u 42 i k = -1) : ∃ u', (∀ w, mX3_settle_L64 i w FU 0 u = w u') ∧ TF i u u' ∧ gI u' 43 = gI u 43 ∧ ∀ t τ, t < sT c → τ < 300 → gI u' 42 i (300 * t + τ) = cel c t τ := by
  obtain ⟨⟨g0, g3, -⟩, -, g39, -⟩ := hS
  have hl := klS_len2 (x := 1) hN
  have key : ∃ u', (∀ w, mX3_settle_L64 i w FU 0 u = w u') ∧ TF i u u' ∧ gI u' 43 = gI u 43 ∧ ∀ t τ, t < sT c → τ < 300 → gI u' 42 i (300 * t + τ) = (klS c 1).foldl (fun v k => if wayP c (nI t) (nI τ) k = true then wyV c k τ else v) (-1) := by
    refine loopR (fun fu (a : HS) y => fun w => mX3_settle_L64 i w fu y a) (klS c 1).length 0 (fun j a => TF i u a ∧ gI a 43 = gI u 43 ∧ ∀ t τ, t < sT c → τ < 300 → gI a 42 i (300 * t + τ) = ((klS c 1).take j).foldl (fun v k => if wayP c (nI t) (nI τ) k = true then wyV c k τ else v) (-1)) (fun o => ∃ u', (∀ w, o w = w u') ∧ TF i u u' ∧ gI u' 43 = gI u 43 ∧ ∀ t τ, t < sT c → τ < 300 → gI u' 42 i (300 * t + τ) = (klS c 1).foldl (fun v k => if wayP c (nI t) (nI τ) k = true then wyV c k τ else v) (-1)) ?_ ?_ (klS c 1).length 0 u FU (Nat.le_refl _) (by omega) (FU_lt (by omega)) ⟨TF.rf, rfl, fun t τ ht hτ => by rw [List.take_zero]; exact h42 _ (by omega)⟩
    · intro fu a j _ hj ⟨a1, a2, a3⟩ ih
      obtain ⟨q, hq⟩ : ∃ q, (klS c 1)[j]? = some q := ⟨_, List.getElem?_eq_getElem hj⟩
      obtain ⟨b, eb, b1, b2, b3⟩ := cWay (u := a) hc hN hT hq (fun x hx => by rw [a1.1 39 (by decide) (by decide)]; exact g39 j q hq x hx) (by rw [a1.2.2]; exact r1)
      have e : ∀ w, mX3_settle_L64 i w (fu + 1) (nI j) a = mX3_settle_L64 i w fu (nI (j + 1)) b := fun w => by
        rw [mX3_settle_L64.eq_2, a1.1 3 (by decide) (by decide), g3, if_neg (nI_ge hj (by omega)), show (nI j * 7 : Int32) = nI (7 * j) from by rw [show (nI j * 7 : Int32) = nI (j * 7) from pk_mul j 7, Nat.mul_comm], eb]
        simp only [ob_q, bd_q, nI_1]
      have htake : (klS c 1).take (j + 1) = (klS c 1).take j ++ [q] := by rw [List.take_succ, hq]; rfl
      obtain ⟨u', q1, q2⟩ := ih b ⟨a1.tr b1, b2.trans a2, fun t τ ht hτ => by rw [b3 t τ ht hτ, htake, List.foldl_append, a3 t τ ht hτ]; rfl⟩
      exact ⟨u', fun w => (e w).trans (q1 w), q2⟩
    · intro fu a ⟨a1, a2, a3⟩
      refine ⟨a, fun w => ?_, a1, a2, fun t τ ht hτ => by rw [a3 t τ ht hτ, List.take_length]⟩
      show mX3_settle_L64 i w (fu + 1) (nI (klS c 1).length) a = w a
      rw [mX3_settle_L64.eq_2, a1.1 3 (by decide) (by decide), g3, if_pos (nI_le (Nat.le_refl _) (by omega))]
  obtain ⟨u', k1, k2, k3, k4⟩ := key
  refine ⟨u', k1, k2, k3, fun t τ ht hτ => ?_⟩
  rw [k4 t τ ht hτ, foldl_klS (g := fun v k => if wayP c (nI t) (nI τ) k = true then wyV c k τ else v) (fun _ _ _ _ => rfl) (fun a k hk h0 => by
    rw [if_neg]
    unfold wayP
    rw [decide_eq_false h0, Bool.false_and, Bool.false_and, Bool.false_and]
    decide)]
  have e := foldl_elim (P := wayP c (nI t) (nI τ)) (f := fun k => wyV c k τ) (d := -1) (List.range (sN c)) none
  refine Eq.trans e ?_
  show (wayO c (nI t) (nI τ)).elim (-1) _ = _
  unfold cel isT plcS
  cases wayO c (nI t) (nI τ) with
  | none => rfl
  | some q => rfl
