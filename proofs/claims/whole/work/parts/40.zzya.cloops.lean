theorem cL_sum {B : Nat → Int32} {n i o b : Nat} {t : Bool} {g0 g1 g2 g3 g4 g5 : HS → Int32 → Option HS} {f : LSt → LSt} (hg : SubC B n i g1 o f) (hf : gOK B n t b f) : ∀ (m k0 fu k : Nat) (s : LSt) (u : HS), k0 + m = 401 → m < fu → (∀ pc, s = .ok pc → n - pc.1 < m) → CLs B n i k s u → ∃ u', mX2_readSum_b_L7 g0 g1 g2 g3 g4 g5 (nI o) (fun u => some u) fu (nI k0) u = some u' ∧ CLs B n i k (opL (tks B n 12 10020) f m s) u' ∧ LF i u u' := by
  intro m
  induction m with
  | zero =>
    intro k0 fu k s u h1 h2 h3 h
    obtain ⟨z, rfl⟩ : ∃ z, fu = z + 1 := ⟨fu - 1, by omega⟩
    rw [mX2_readSum_b_L7.eq_2, if_pos (show (400 : Int32) ≤ nI k0 from nI_le (a := 400) (by omega) (by omega))]
    exact ⟨u, rfl, h, LF.rf⟩
  | succ m ih =>
    intro k0 fu k s u h1 h2 h3 h
    obtain ⟨z, rfl⟩ : ∃ z, fu = z + 1 := ⟨fu - 1, by omega⟩
    rw [mX2_readSum_b_L7.eq_2]
    cases s with
    | error e =>
      rw [opL_er]
      by_cases hk : 400 ≤ k0
      · rw [if_pos (show (400 : Int32) ≤ nI k0 from nI_le (a := 400) hk (by omega))]
        exact ⟨u, rfl, h, LF.rf⟩
      · rw [if_neg (show ¬ (400 : Int32) ≤ nI k0 from nI_ge (b := 400) (by omega) (by decide))]
        obtain ⟨-, h0, h5, -⟩ := h.2.1
        rw [cTakeSE (by rw [h5]; exact h0)]
        simp only [ob_q, bd_q, if_true]
        exact ⟨u, rfl, h, LF.rf⟩
    | ok pc =>
      obtain ⟨p, c⟩ := pc
      have hp := h.2.1.le
      have hpn : p ≤ n := hp.1
      have h3' := h3 _ rfl
      simp only at h3'
      by_cases hk : 400 ≤ k0
      · rw [if_pos (show (400 : Int32) ≤ nI k0 from nI_le (a := 400) hk (by omega))]
        have : p = n := by omega
        subst this
        have e : opL (tks B p 12 10020) f (m + 1) (.ok (p, c)) = .ok (p, c) := by
          have : tks B p 12 10020 p = none := by unfold tks; rw [sgO_end]; rfl
          simp only [opL, this]
        rw [e]
        exact ⟨u, rfl, h, LF.rf⟩
      · rw [if_neg (show ¬ (400 : Int32) ≤ nI k0 from nI_ge (b := 400) (by omega) (by decide))]
        obtain ⟨u1, e1, f1, c1, -⟩ := cTakeS (i := 12) ⟨by decide, by decide⟩ h.2.1
        rw [e1]
        simp only [ob_q, bd_q]
        cases hq : sgO 12 B n p with
        | none =>
          rw [hq, if_neg (by simp)] at c1
          have e : opL (tks B n 12 10020) f (m + 1) (.ok (p, c)) = .ok (p, c) := by
            have : tks B n 12 10020 p = none := by unfold tks; rw [hq]; rfl
            simp only [opL, this]
          rw [e]
          simp only [Option.elim, if_true]
          exact ⟨u1, rfl, h.st f1 c1, f1.lf (by decide)⟩
        | some j =>
          rw [hq, if_pos (show (some j).isSome = true from rfl)] at c1
          have hj : j < 2 := sgO_j hq
          have s1 := sgO_in hq
          rw [show sk B n p = p from hp.2.2] at s1
          have l := sk_le (B := B) (show p + 1 ≤ n by omega)
          have e : opL (tks B n 12 10020) f (m + 1) (.ok (p, c)) = opL (tks B n 12 10020) f m (lE (nI (10020 + j)) (f (.ok (sk B n (p + 1), c)))) := by
            have : tks B n 12 10020 p = some (nI (10020 + j), sk B n (p + 1)) := by unfold tks; rw [hq]; rfl
            simp only [opL, this]
          rw [e]
          rw [if_neg (show ¬ (some j).elim (-1) nI = -1 from nI_m1 (show j < 2 ^ 31 by omega))]
          obtain ⟨u2, e2, c2, f2⟩ := hg _ _ _ (h.adv (q := sk B n (p + 1)) f1 c1 (show p + 1 ≤ sk B n (p + 1) from l.1))
          rw [e2]
          simp only [ob_q]
          obtain ⟨u3, e3, c3, f3⟩ := cEmit c2 (nI (10020 + j)) ((-20) - (some j).elim (-1) nI) (fun _ _ => by rw [opE 10020 hj (by omega)]; rfl)
          rw [c2.1, e3]
          simp only [ob_q, nI_1]
          obtain ⟨u', e4, c4, f4⟩ := ih (k0 + 1) z k _ u3 (by omega) (by omega) (fun pc hpc => by
            obtain ⟨c', d1, -⟩ := lE_ok hpc
            obtain ⟨r, -, a2, -⟩ := hf _ _ _ l.2 (sk_idem (by omega)) d1
            simp only at a2
            omega) c3
          exact ⟨u', e4, c4, (((f1.lf (by decide)).tr f2).tr f3).tr f4⟩
theorem cL_prod {B : Nat → Int32} {n i o b : Nat} {t : Bool} {g0 g1 g2 g3 g4 g5 : HS → Int32 → Option HS} {f : LSt → LSt} (hg : SubC B n i g2 o f) (hf : gOK B n t b f) : ∀ (m k0 fu k : Nat) (s : LSt) (u : HS), k0 + m = 401 → m < fu → (∀ pc, s = .ok pc → n - pc.1 < m) → CLs B n i k s u → ∃ u', mX2_readProduct_b_L7 g0 g1 g2 g3 g4 g5 (nI o) (fun u => some u) fu (nI k0) u = some u' ∧ CLs B n i k (opL (tks B n 13 10022) f m s) u' ∧ LF i u u' := by
  intro m
  induction m with
  | zero =>
    intro k0 fu k s u h1 h2 h3 h
    obtain ⟨z, rfl⟩ : ∃ z, fu = z + 1 := ⟨fu - 1, by omega⟩
    rw [mX2_readProduct_b_L7.eq_2, if_pos (show (400 : Int32) ≤ nI k0 from nI_le (a := 400) (by omega) (by omega))]
    exact ⟨u, rfl, h, LF.rf⟩
  | succ m ih =>
    intro k0 fu k s u h1 h2 h3 h
    obtain ⟨z, rfl⟩ : ∃ z, fu = z + 1 := ⟨fu - 1, by omega⟩
    rw [mX2_readProduct_b_L7.eq_2]
    cases s with
    | error e =>
      rw [opL_er]
      by_cases hk : 400 ≤ k0
      · rw [if_pos (show (400 : Int32) ≤ nI k0 from nI_le (a := 400) hk (by omega))]
        exact ⟨u, rfl, h, LF.rf⟩
      · rw [if_neg (show ¬ (400 : Int32) ≤ nI k0 from nI_ge (b := 400) (by omega) (by decide))]
        obtain ⟨-, h0, h5, -⟩ := h.2.1
        rw [cTakeSE (by rw [h5]; exact h0)]
        simp only [ob_q, bd_q, if_true]
        exact ⟨u, rfl, h, LF.rf⟩
    | ok pc =>
      obtain ⟨p, c⟩ := pc
      have hp := h.2.1.le
      have hpn : p ≤ n := hp.1
      have h3' := h3 _ rfl
      simp only at h3'
      by_cases hk : 400 ≤ k0
      · rw [if_pos (show (400 : Int32) ≤ nI k0 from nI_le (a := 400) hk (by omega))]
        have : p = n := by omega
        subst this
        have e : opL (tks B p 13 10022) f (m + 1) (.ok (p, c)) = .ok (p, c) := by
          have : tks B p 13 10022 p = none := by unfold tks; rw [sgO_end]; rfl
          simp only [opL, this]
        rw [e]
        exact ⟨u, rfl, h, LF.rf⟩
      · rw [if_neg (show ¬ (400 : Int32) ≤ nI k0 from nI_ge (b := 400) (by omega) (by decide))]
        obtain ⟨u1, e1, f1, c1, -⟩ := cTakeS (i := 13) ⟨by decide, by decide⟩ h.2.1
        rw [e1]
        simp only [ob_q, bd_q]
        cases hq : sgO 13 B n p with
        | none =>
          rw [hq, if_neg (by simp)] at c1
          have e : opL (tks B n 13 10022) f (m + 1) (.ok (p, c)) = .ok (p, c) := by
            have : tks B n 13 10022 p = none := by unfold tks; rw [hq]; rfl
            simp only [opL, this]
          rw [e]
          simp only [Option.elim, if_true]
          exact ⟨u1, rfl, h.st f1 c1, f1.lf (by decide)⟩
        | some j =>
          rw [hq, if_pos (show (some j).isSome = true from rfl)] at c1
          have hj : j < 2 := sgO_j hq
          have s1 := sgO_in hq
          rw [show sk B n p = p from hp.2.2] at s1
          have l := sk_le (B := B) (show p + 1 ≤ n by omega)
          have e : opL (tks B n 13 10022) f (m + 1) (.ok (p, c)) = opL (tks B n 13 10022) f m (lE (nI (10022 + j)) (f (.ok (sk B n (p + 1), c)))) := by
            have : tks B n 13 10022 p = some (nI (10022 + j), sk B n (p + 1)) := by unfold tks; rw [hq]; rfl
            simp only [opL, this]
          rw [e]
          rw [if_neg (show ¬ (some j).elim (-1) nI = -1 from nI_m1 (show j < 2 ^ 31 by omega))]
          obtain ⟨u2, e2, c2, f2⟩ := hg _ _ _ (h.adv (q := sk B n (p + 1)) f1 c1 (show p + 1 ≤ sk B n (p + 1) from l.1))
          rw [e2]
          simp only [ob_q]
          obtain ⟨u3, e3, c3, f3⟩ := cEmit c2 (nI (10022 + j)) ((-22) - (some j).elim (-1) nI) (fun _ _ => by rw [opE 10022 hj (by omega)]; rfl)
          rw [c2.1, e3]
          simp only [ob_q, nI_1]
          obtain ⟨u', e4, c4, f4⟩ := ih (k0 + 1) z k _ u3 (by omega) (by omega) (fun pc hpc => by
            obtain ⟨c', d1, -⟩ := lE_ok hpc
            obtain ⟨r, -, a2, -⟩ := hf _ _ _ l.2 (sk_idem (by omega)) d1
            simp only at a2
            omega) c3
          exact ⟨u', e4, c4, (((f1.lf (by decide)).tr f2).tr f3).tr f4⟩
theorem cL_eith {B : Nat → Int32} {n i o b : Nat} {t : Bool} {g0 g1 g2 g3 g4 g5 : HS → Int32 → Option HS} {f : LSt → LSt} (hg : SubC B n i g4 o f) (hf : gOK B n t b f) : ∀ (m k0 fu k : Nat) (s : LSt) (u : HS), k0 + m = 401 → m < fu → (∀ pc, s = .ok pc → n - pc.1 < m) → CLs B n i k s u → ∃ u', mX2_readEither_b_L7 g0 g1 g2 g3 g4 g5 (nI o) (fun u => some u) fu (nI k0) u = some u' ∧ CLs B n i k (opL (tkw B n 4 10035) f m s) u' ∧ LF i u u' := by
  intro m
  induction m with
  | zero =>
    intro k0 fu k s u h1 h2 h3 h
    obtain ⟨z, rfl⟩ : ∃ z, fu = z + 1 := ⟨fu - 1, by omega⟩
    rw [mX2_readEither_b_L7.eq_2, if_pos (show (400 : Int32) ≤ nI k0 from nI_le (a := 400) (by omega) (by omega))]
    exact ⟨u, rfl, h, LF.rf⟩
  | succ m ih =>
    intro k0 fu k s u h1 h2 h3 h
    obtain ⟨z, rfl⟩ : ∃ z, fu = z + 1 := ⟨fu - 1, by omega⟩
    rw [mX2_readEither_b_L7.eq_2]
    cases s with
    | error e =>
      rw [opL_er]
      by_cases hk : 400 ≤ k0
      · rw [if_pos (show (400 : Int32) ≤ nI k0 from nI_le (a := 400) hk (by omega))]
        exact ⟨u, rfl, h, LF.rf⟩
      · rw [if_neg (show ¬ (400 : Int32) ≤ nI k0 from nI_ge (b := 400) (by omega) (by decide))]
        obtain ⟨-, h0, h5, -⟩ := h.2.1
        rw [cTakeWE (by rw [h5]; exact h0)]
        simp only [ob_q, bd_q]
        rw [if_neg (by decide)]
        exact ⟨u, rfl, h, LF.rf⟩
    | ok pc =>
      obtain ⟨p, c⟩ := pc
      have hp := h.2.1.le
      have hpn : p ≤ n := hp.1
      have h3' := h3 _ rfl
      simp only at h3'
      by_cases hk : 400 ≤ k0
      · rw [if_pos (show (400 : Int32) ≤ nI k0 from nI_le (a := 400) hk (by omega))]
        have : p = n := by omega
        subst this
        have e : opL (tkw B p 4 10035) f (m + 1) (.ok (p, c)) = .ok (p, c) := by
          have : tkw B p 4 10035 p = none := by unfold tkw; rw [wdO_end wr4, if_neg (by simp)]
          simp only [opL, this]
        rw [e]
        exact ⟨u, rfl, h, LF.rf⟩
      · rw [if_neg (show ¬ (400 : Int32) ≤ nI k0 from nI_ge (b := 400) (by omega) (by decide))]
        obtain ⟨u1, e1, f1, c1, -⟩ := cTakeWS (i := 4) ⟨by decide, by decide⟩ h.2.1
        rw [e1]
        simp only [ob_q, bd_q]
        cases hq : wdO 4 B n p with
        | none =>
          rw [hq, if_neg (by simp)] at c1
          have e : opL (tkw B n 4 10035) f (m + 1) (.ok (p, c)) = .ok (p, c) := by
            have : tkw B n 4 10035 p = none := by unfold tkw; rw [hq, if_neg (by simp)]
            simp only [opL, this]
          rw [e]
          rw [if_neg (show ¬ (none : Option Nat).elim (-1) nI = 0 by decide)]
          exact ⟨u1, rfl, h.st f1 c1, f1.lf (by decide)⟩
        | some j =>
          have hj : j = 0 := wd1x (w := [111, 114]) rfl (by decide) hq
          subst hj
          rw [hq, if_pos (show (some 0).isSome = true from rfl)] at c1
          have s1 := wdO_st hq hpn wr4
          rw [show sk B n p = p from hp.2.2] at s1
          have w2 := (wsE_le (B := B) hpn).2
          have l := sk_le (B := B) w2
          have e : opL (tkw B n 4 10035) f (m + 1) (.ok (p, c)) = opL (tkw B n 4 10035) f m (lE (nI 10035) (f (.ok (sk B n (wsE B n p), c)))) := by
            have : tkw B n 4 10035 p = some (nI 10035, sk B n (wsE B n p)) := by unfold tkw; rw [hq, if_pos rfl]
            simp only [opL, this]
          rw [e]
          rw [if_pos (show (some 0).elim (-1) nI = 0 from rfl)]
          obtain ⟨u2, e2, c2, f2⟩ := hg _ _ _ (h.adv (q := sk B n (wsE B n p)) f1 c1 (show p + 1 ≤ sk B n (wsE B n p) by omega))
          rw [e2]
          simp only [ob_q]
          obtain ⟨u3, e3, c3, f3⟩ := cEmit c2 (nI 10035) (-30) (fun _ _ => rfl)
          rw [c2.1, e3]
          simp only [ob_q, nI_1]
          obtain ⟨u', e4, c4, f4⟩ := ih (k0 + 1) z k _ u3 (by omega) (by omega) (fun pc hpc => by
            obtain ⟨c', d1, -⟩ := lE_ok hpc
            obtain ⟨r, -, a2, -⟩ := hf _ _ _ l.2 (sk_idem w2) d1
            simp only at a2
            omega) c3
          exact ⟨u', e4, c4, (((f1.lf (by decide)).tr f2).tr f3).tr f4⟩
theorem cL_both {B : Nat → Int32} {n i o b : Nat} {t : Bool} {g0 g1 g2 g3 g4 g5 : HS → Int32 → Option HS} {f : LSt → LSt} (hg : SubC B n i g5 o f) (hf : gOK B n t b f) : ∀ (m k0 fu k : Nat) (s : LSt) (u : HS), k0 + m = 401 → m < fu → (∀ pc, s = .ok pc → n - pc.1 < m) → CLs B n i k s u → ∃ u', mX2_readBoth_b_L7 g0 g1 g2 g3 g4 g5 (nI o) (fun u => some u) fu (nI k0) u = some u' ∧ CLs B n i k (opL (tkw B n 5 10034) f m s) u' ∧ LF i u u' := by
  intro m
  induction m with
  | zero =>
    intro k0 fu k s u h1 h2 h3 h
    obtain ⟨z, rfl⟩ : ∃ z, fu = z + 1 := ⟨fu - 1, by omega⟩
    rw [mX2_readBoth_b_L7.eq_2, if_pos (show (400 : Int32) ≤ nI k0 from nI_le (a := 400) (by omega) (by omega))]
    exact ⟨u, rfl, h, LF.rf⟩
  | succ m ih =>
    intro k0 fu k s u h1 h2 h3 h
    obtain ⟨z, rfl⟩ : ∃ z, fu = z + 1 := ⟨fu - 1, by omega⟩
    rw [mX2_readBoth_b_L7.eq_2]
    cases s with
    | error e =>
      rw [opL_er]
      by_cases hk : 400 ≤ k0
      · rw [if_pos (show (400 : Int32) ≤ nI k0 from nI_le (a := 400) hk (by omega))]
        exact ⟨u, rfl, h, LF.rf⟩
      · rw [if_neg (show ¬ (400 : Int32) ≤ nI k0 from nI_ge (b := 400) (by omega) (by decide))]
        obtain ⟨-, h0, h5, -⟩ := h.2.1
        rw [cTakeWE (by rw [h5]; exact h0)]
        simp only [ob_q, bd_q]
        rw [if_neg (by decide)]
        exact ⟨u, rfl, h, LF.rf⟩
    | ok pc =>
      obtain ⟨p, c⟩ := pc
      have hp := h.2.1.le
      have hpn : p ≤ n := hp.1
      have h3' := h3 _ rfl
      simp only at h3'
      by_cases hk : 400 ≤ k0
      · rw [if_pos (show (400 : Int32) ≤ nI k0 from nI_le (a := 400) hk (by omega))]
        have : p = n := by omega
        subst this
        have e : opL (tkw B p 5 10034) f (m + 1) (.ok (p, c)) = .ok (p, c) := by
          have : tkw B p 5 10034 p = none := by unfold tkw; rw [wdO_end wr5, if_neg (by simp)]
          simp only [opL, this]
        rw [e]
        exact ⟨u, rfl, h, LF.rf⟩
      · rw [if_neg (show ¬ (400 : Int32) ≤ nI k0 from nI_ge (b := 400) (by omega) (by decide))]
        obtain ⟨u1, e1, f1, c1, -⟩ := cTakeWS (i := 5) ⟨by decide, by decide⟩ h.2.1
        rw [e1]
        simp only [ob_q, bd_q]
        cases hq : wdO 5 B n p with
        | none =>
          rw [hq, if_neg (by simp)] at c1
          have e : opL (tkw B n 5 10034) f (m + 1) (.ok (p, c)) = .ok (p, c) := by
            have : tkw B n 5 10034 p = none := by unfold tkw; rw [hq, if_neg (by simp)]
            simp only [opL, this]
          rw [e]
          rw [if_neg (show ¬ (none : Option Nat).elim (-1) nI = 0 by decide)]
          exact ⟨u1, rfl, h.st f1 c1, f1.lf (by decide)⟩
        | some j =>
          have hj : j = 0 := wd1x (w := [97, 110, 100]) rfl (by decide) hq
          subst hj
          rw [hq, if_pos (show (some 0).isSome = true from rfl)] at c1
          have s1 := wdO_st hq hpn wr5
          rw [show sk B n p = p from hp.2.2] at s1
          have w2 := (wsE_le (B := B) hpn).2
          have l := sk_le (B := B) w2
          have e : opL (tkw B n 5 10034) f (m + 1) (.ok (p, c)) = opL (tkw B n 5 10034) f m (lE (nI 10034) (f (.ok (sk B n (wsE B n p), c)))) := by
            have : tkw B n 5 10034 p = some (nI 10034, sk B n (wsE B n p)) := by unfold tkw; rw [hq, if_pos rfl]
            simp only [opL, this]
          rw [e]
          rw [if_pos (show (some 0).elim (-1) nI = 0 from rfl)]
          obtain ⟨u2, e2, c2, f2⟩ := hg _ _ _ (h.adv (q := sk B n (wsE B n p)) f1 c1 (show p + 1 ≤ sk B n (wsE B n p) by omega))
          rw [e2]
          simp only [ob_q]
          obtain ⟨u3, e3, c3, f3⟩ := cEmit c2 (nI 10034) (-29) (fun _ _ => rfl)
          rw [c2.1, e3]
          simp only [ob_q, nI_1]
          obtain ⟨u', e4, c4, f4⟩ := ih (k0 + 1) z k _ u3 (by omega) (by omega) (fun pc hpc => by
            obtain ⟨c', d1, -⟩ := lE_ok hpc
            obtain ⟨r, -, a2, -⟩ := hf _ _ _ l.2 (sk_idem w2) d1
            simp only at a2
            omega) c3
          exact ⟨u', e4, c4, (((f1.lf (by decide)).tr f2).tr f3).tr f4⟩
