theorem tL_prod {B : Nat → Int32} {n o b : Nat} {t : Bool} {g0 g1 g2 g3 g4 g5 : HS → Option HS} {f : LSt → LSt} {w : HS → Option HS} (hg : SubR B n g0 o f) (hf : gOK B n t b f) : ∀ (m fu k : Nat) (s : LSt) (u : HS), m < fu → (∀ pc, s = .ok pc → n - pc.1 < m) → RLs B n k o s u → (∀ pc, s = .ok pc → LexR B n pc.1 u) → ∃ u', mX9_product_b_L8 g0 g1 g2 g3 g4 g5 w fu u = w u' ∧ RLs B n k o (opL (tks B n 13 10022) f m s) u' ∧ RF u u' := by
  intro m
  induction m with
  | zero =>
    intro fu k s u h2 h3 h hl
    obtain ⟨z, rfl⟩ : ∃ z, fu = z + 1 := ⟨fu - 1, by omega⟩
    cases s with
    | ok pc => have := h3 _ rfl; omega
    | error e =>
      obtain ⟨-, h0, h6, -⟩ := h.1
      rw [mX9_product_b_L8.eq_2, if_neg (by rw [h6]; exact h0)]
      exact ⟨u, rfl, h, RF.rf⟩
  | succ m ih =>
    intro fu k s u h2 h3 h hl
    obtain ⟨z, rfl⟩ : ∃ z, fu = z + 1 := ⟨fu - 1, by omega⟩
    rw [mX9_product_b_L8.eq_2]
    cases s with
    | error e =>
      obtain ⟨-, h0, h6, -⟩ := h.1
      rw [if_neg (by rw [h6]; exact h0), opL_er]
      exact ⟨u, rfl, h, RF.rf⟩
    | ok pc =>
      obtain ⟨p, c⟩ := pc
      have l : LexR B n p u := hl _ rfl
      have hp := h.1.le
      have hpn : p ≤ n := hp.1
      have hsk : sk B n p = p := hp.2.2
      have h3' := h3 _ rfl
      simp only at h3'
      have sg : sgO 13 B n p = if bAt B n p = 42 then some 0 else if bAt B n p = 47 then some 1 else none := sg2 rfl hsk (by decide) (by decide)
      rw [if_pos h.1.2.1, rAt l]
      simp only [ob_q, jp_q, bd_q]
      by_cases q0 : bAt B n p = 42 ∨ bAt B n p = 47
      · obtain ⟨j, hj2, hj⟩ : ∃ j, j < 2 ∧ sgO 13 B n p = some j := by
          rcases q0 with q | q
          · exact ⟨0, by decide, by rw [sg, if_pos q]⟩
          · exact ⟨1, by decide, by rw [sg, if_neg (by rw [q]; decide), if_pos q]⟩
        have hlt : p < n := by
          rcases q0 with q | q
          · exact bAt_in (by decide) q
          · exact bAt_in (by decide) q
        have l2 := sk_le (B := B) (show p + 1 ≤ n by omega)
        have e : opL (tks B n 13 10022) f (m + 1) (.ok (p, c)) = opL (tks B n 13 10022) f m (lE (nI (10022 + j)) (f (.ok (sk B n (p + 1), c)))) := by
          have : tks B n 13 10022 p = some (nI (10022 + j), sk B n (p + 1)) := by unfold tks; rw [hj]; rfl
          simp only [opL, this]
        have hx : (if bAt B n p = 42 then some (10022 : Int32) else some (10023 : Int32) : Option Int32) = some (nI (10022 + j)) := by
          by_cases q : bAt B n p = 42
          · rw [sg, if_pos q] at hj
            injection hj with hj
            rw [if_pos q, ← hj]; rfl
          · rw [sg, if_neg q, if_pos (q0.resolve_left q)] at hj
            injection hj with hj
            rw [if_neg q, ← hj]; rfl
        obtain ⟨c1, f1⟩ := tAdv h l hlt
        obtain ⟨u2, e2, c2, f2⟩ := hg _ _ _ c1
        obtain ⟨u3, e3, c3, f3⟩ := tTells c2 (nI (10022 + j))
        obtain ⟨u4, e4, c4, f4, l4⟩ := tBlL c3
        obtain ⟨u', e5, c5, f5⟩ := ih z k _ u4 (by omega) (fun pc hpc => by
          obtain ⟨c', d1, -⟩ := lE_ok hpc
          obtain ⟨r, -, a2, -⟩ := hf _ _ _ l2.2 (sk_idem (by omega)) d1
          simp only at a2
          omega) c4 l4
        have J : ((g0 (wI u 9 0 4 (gI u 9 0 4 + 1))).bind fun u116 => (if bAt B n p = 42 then some (10022 : Int32) else some (10023 : Int32) : Option Int32).bind fun x117 => (mX9_tells u116 x117).bind fun u120 => (mX9_blanks u120).bind fun u122 => mX9_product_b_L8 g0 g1 g2 g3 g4 g5 w z u122) = w u' := by
          rw [e2]
          simp only [ob_q]
          rw [hx]
          simp only [ob_q]
          rw [e3]
          simp only [ob_q]
          rw [e4]
          simp only [ob_q]
          exact e5
        rw [e]
        refine ⟨u', ?_, c5, (((f1.tr f2).tr f3).tr f4).tr f5⟩
        by_cases q : bAt B n p = 42
        · rw [if_pos q]; exact J
        · rw [if_neg q, if_pos (q0.resolve_left q)]; exact J
      · have n1 : ¬ bAt B n p = 42 := fun q => q0 (Or.inl q)
        have n2 : ¬ bAt B n p = 47 := fun q => q0 (Or.inr q)
        have e : opL (tks B n 13 10022) f (m + 1) (.ok (p, c)) = .ok (p, c) := by
          have : tks B n 13 10022 p = none := by unfold tks; rw [sg, if_neg n1, if_neg n2]; rfl
          simp only [opL, this]
        rw [e, if_neg n1, if_neg n2]
        exact ⟨u, rfl, h, RF.rf⟩
theorem tL_sum {B : Nat → Int32} {n o b : Nat} {t : Bool} {g0 g1 g2 g3 g4 g5 : HS → Option HS} {f : LSt → LSt} {w : HS → Option HS} (hg : SubR B n g1 o f) (hf : gOK B n t b f) : ∀ (m fu k : Nat) (s : LSt) (u : HS), m < fu → (∀ pc, s = .ok pc → n - pc.1 < m) → RLs B n k o s u → (∀ pc, s = .ok pc → LexR B n pc.1 u) → ∃ u', mX9_sum_b_L8 g0 g1 g2 g3 g4 g5 w fu u = w u' ∧ RLs B n k o (opL (tks B n 12 10020) f m s) u' ∧ RF u u' := by
  intro m
  induction m with
  | zero =>
    intro fu k s u h2 h3 h hl
    obtain ⟨z, rfl⟩ : ∃ z, fu = z + 1 := ⟨fu - 1, by omega⟩
    cases s with
    | ok pc => have := h3 _ rfl; omega
    | error e =>
      obtain ⟨-, h0, h6, -⟩ := h.1
      rw [mX9_sum_b_L8.eq_2, if_neg (by rw [h6]; exact h0)]
      exact ⟨u, rfl, h, RF.rf⟩
  | succ m ih =>
    intro fu k s u h2 h3 h hl
    obtain ⟨z, rfl⟩ : ∃ z, fu = z + 1 := ⟨fu - 1, by omega⟩
    rw [mX9_sum_b_L8.eq_2]
    cases s with
    | error e =>
      obtain ⟨-, h0, h6, -⟩ := h.1
      rw [if_neg (by rw [h6]; exact h0), opL_er]
      exact ⟨u, rfl, h, RF.rf⟩
    | ok pc =>
      obtain ⟨p, c⟩ := pc
      have l : LexR B n p u := hl _ rfl
      have hp := h.1.le
      have hpn : p ≤ n := hp.1
      have hsk : sk B n p = p := hp.2.2
      have h3' := h3 _ rfl
      simp only at h3'
      have sg : sgO 12 B n p = if bAt B n p = 43 then some 0 else if bAt B n p = 45 then some 1 else none := sg2 rfl hsk (by decide) (by decide)
      rw [if_pos h.1.2.1, rAt l]
      simp only [ob_q, jp_q, bd_q]
      by_cases q0 : bAt B n p = 43 ∨ bAt B n p = 45
      · obtain ⟨j, hj2, hj⟩ : ∃ j, j < 2 ∧ sgO 12 B n p = some j := by
          rcases q0 with q | q
          · exact ⟨0, by decide, by rw [sg, if_pos q]⟩
          · exact ⟨1, by decide, by rw [sg, if_neg (by rw [q]; decide), if_pos q]⟩
        have hlt : p < n := by
          rcases q0 with q | q
          · exact bAt_in (by decide) q
          · exact bAt_in (by decide) q
        have l2 := sk_le (B := B) (show p + 1 ≤ n by omega)
        have e : opL (tks B n 12 10020) f (m + 1) (.ok (p, c)) = opL (tks B n 12 10020) f m (lE (nI (10020 + j)) (f (.ok (sk B n (p + 1), c)))) := by
          have : tks B n 12 10020 p = some (nI (10020 + j), sk B n (p + 1)) := by unfold tks; rw [hj]; rfl
          simp only [opL, this]
        have hx : (if bAt B n p = 43 then some (10020 : Int32) else some (10021 : Int32) : Option Int32) = some (nI (10020 + j)) := by
          by_cases q : bAt B n p = 43
          · rw [sg, if_pos q] at hj
            injection hj with hj
            rw [if_pos q, ← hj]; rfl
          · rw [sg, if_neg q, if_pos (q0.resolve_left q)] at hj
            injection hj with hj
            rw [if_neg q, ← hj]; rfl
        obtain ⟨c1, f1⟩ := tAdv h l hlt
        obtain ⟨u2, e2, c2, f2⟩ := hg _ _ _ c1
        obtain ⟨u3, e3, c3, f3⟩ := tTells c2 (nI (10020 + j))
        obtain ⟨u4, e4, c4, f4, l4⟩ := tBlL c3
        obtain ⟨u', e5, c5, f5⟩ := ih z k _ u4 (by omega) (fun pc hpc => by
          obtain ⟨c', d1, -⟩ := lE_ok hpc
          obtain ⟨r, -, a2, -⟩ := hf _ _ _ l2.2 (sk_idem (by omega)) d1
          simp only at a2
          omega) c4 l4
        have J : ((g1 (wI u 9 0 4 (gI u 9 0 4 + 1))).bind fun u116 => (if bAt B n p = 43 then some (10020 : Int32) else some (10021 : Int32) : Option Int32).bind fun x117 => (mX9_tells u116 x117).bind fun u120 => (mX9_blanks u120).bind fun u122 => mX9_sum_b_L8 g0 g1 g2 g3 g4 g5 w z u122) = w u' := by
          rw [e2]
          simp only [ob_q]
          rw [hx]
          simp only [ob_q]
          rw [e3]
          simp only [ob_q]
          rw [e4]
          simp only [ob_q]
          exact e5
        rw [e]
        refine ⟨u', ?_, c5, (((f1.tr f2).tr f3).tr f4).tr f5⟩
        by_cases q : bAt B n p = 43
        · rw [if_pos q]; exact J
        · rw [if_neg q, if_pos (q0.resolve_left q)]; exact J
      · have n1 : ¬ bAt B n p = 43 := fun q => q0 (Or.inl q)
        have n2 : ¬ bAt B n p = 45 := fun q => q0 (Or.inr q)
        have e : opL (tks B n 12 10020) f (m + 1) (.ok (p, c)) = .ok (p, c) := by
          have : tks B n 12 10020 p = none := by unfold tks; rw [sg, if_neg n1, if_neg n2]; rfl
          simp only [opL, this]
        rw [e, if_neg n1, if_neg n2]
        exact ⟨u, rfl, h, RF.rf⟩
theorem tL_ands {B : Nat → Int32} {n o b : Nat} {t : Bool} {g0 g1 g2 g3 g4 g5 : HS → Option HS} {f : LSt → LSt} {w : HS → Option HS} (hg : SubR B n g3 o f) (hf : gOK B n t b f) : ∀ (m fu k : Nat) (s : LSt) (u : HS), m < fu → (∀ pc, s = .ok pc → n - pc.1 < m) → RLs B n k o s u → ∃ u', mX9_ands_b_L4 g0 g1 g2 g3 g4 g5 w fu u = w u' ∧ RLs B n k o (opL (tkw B n 5 10034) f m s) u' ∧ RF u u' := by
  intro m
  induction m with
  | zero =>
    intro fu k s u h2 h3 h
    obtain ⟨z, rfl⟩ : ∃ z, fu = z + 1 := ⟨fu - 1, by omega⟩
    cases s with
    | ok pc => have := h3 _ rfl; omega
    | error e =>
      obtain ⟨-, h0, h6, -⟩ := h.1
      rw [mX9_ands_b_L4.eq_2, tIsWE (by rw [h6]; exact h0)]
      simp only [ob_q, bd_q, if_true]
      exact ⟨u, rfl, h, RF.rf⟩
  | succ m ih =>
    intro fu k s u h2 h3 h
    obtain ⟨z, rfl⟩ : ∃ z, fu = z + 1 := ⟨fu - 1, by omega⟩
    rw [mX9_ands_b_L4.eq_2]
    cases s with
    | error e =>
      obtain ⟨-, h0, h6, -⟩ := h.1
      rw [tIsWE (by rw [h6]; exact h0), opL_er]
      simp only [ob_q, bd_q, if_true]
      exact ⟨u, rfl, h, RF.rf⟩
    | ok pc =>
      obtain ⟨p, c⟩ := pc
      have hp := h.1.le
      have hpn : p ≤ n := hp.1
      have hsk : sk B n p = p := hp.2.2
      have h3' := h3 _ rfl
      simp only at h3'
      have wd : wdO 5 B n p = if eqW B p (wsE B n p - p) [97, 110, 100] = true then some 0 else none := wd1e rfl (by decide) hsk
      obtain ⟨u1, e1, l1, c1, f1⟩ := tIsW (w := [97, 110, 100]) (a1 := 1) (a2 := 14) (a3 := 4) (a4 := 0) (a5 := 0) (a6 := 0) (by decide) (by decide) (by decide) h
      rw [e1]
      simp only [ob_q, bd_q]
      by_cases q : eqW B p (wsE B n p - p) [97, 110, 100] = true
      · rw [if_pos q] at wd
        rw [q, if_neg (show ¬ bI true = 0 by decide)]
        have w1 := wdO_st wd hpn wr5
        rw [hsk] at w1
        have w2 := (wsE_le (B := B) hpn).2
        have l2 := sk_le (B := B) w2
        have e : opL (tkw B n 5 10034) f (m + 1) (.ok (p, c)) = opL (tkw B n 5 10034) f m (lE (nI 10034) (f (.ok (sk B n (wsE B n p), c)))) := by
          have : tkw B n 5 10034 p = some (nI 10034, sk B n (wsE B n p)) := by unfold tkw; rw [wd, if_pos rfl]
          simp only [opL, this]
        rw [e]
        obtain ⟨u2, e2, c2, f2⟩ := tSkW c1 l1 w1
        rw [e2]
        simp only [ob_q]
        obtain ⟨u3, e3, c3, f3⟩ := hg _ _ _ c2
        rw [e3]
        simp only [ob_q]
        obtain ⟨u4, e4, c4, f4⟩ := tTells c3 (nI 10034)
        rw [show mX9_tells u3 10034 = some u4 from e4]
        simp only [ob_q]
        obtain ⟨u', e5, c5, f5⟩ := ih z k _ u4 (by omega) (fun pc hpc => by
          obtain ⟨c', d1, -⟩ := lE_ok hpc
          obtain ⟨r, -, a2, -⟩ := hf _ _ _ l2.2 (sk_idem w2) d1
          simp only at a2
          omega) c4
        exact ⟨u', e5, c5, (((f1.tr f2).tr f3).tr f4).tr f5⟩
      · rw [if_neg q] at wd
        rw [eq_false_of_ne_true q, if_pos (show bI false = 0 from rfl)]
        have e : opL (tkw B n 5 10034) f (m + 1) (.ok (p, c)) = .ok (p, c) := by
          have : tkw B n 5 10034 p = none := by unfold tkw; rw [wd, if_neg (by simp)]
          simp only [opL, this]
        rw [e]
        exact ⟨u1, rfl, c1, f1⟩
theorem tL_ors {B : Nat → Int32} {n o b : Nat} {t : Bool} {g0 g1 g2 g3 g4 g5 : HS → Option HS} {f : LSt → LSt} {w : HS → Option HS} (hg : SubR B n g4 o f) (hf : gOK B n t b f) : ∀ (m fu k : Nat) (s : LSt) (u : HS), m < fu → (∀ pc, s = .ok pc → n - pc.1 < m) → RLs B n k o s u → ∃ u', mX9_ors_b_L4 g0 g1 g2 g3 g4 g5 w fu u = w u' ∧ RLs B n k o (opL (tkw B n 4 10035) f m s) u' ∧ RF u u' := by
  intro m
  induction m with
  | zero =>
    intro fu k s u h2 h3 h
    obtain ⟨z, rfl⟩ : ∃ z, fu = z + 1 := ⟨fu - 1, by omega⟩
    cases s with
    | ok pc => have := h3 _ rfl; omega
    | error e =>
      obtain ⟨-, h0, h6, -⟩ := h.1
      rw [mX9_ors_b_L4.eq_2, tIsWE (by rw [h6]; exact h0)]
      simp only [ob_q, bd_q, if_true]
      exact ⟨u, rfl, h, RF.rf⟩
  | succ m ih =>
    intro fu k s u h2 h3 h
    obtain ⟨z, rfl⟩ : ∃ z, fu = z + 1 := ⟨fu - 1, by omega⟩
    rw [mX9_ors_b_L4.eq_2]
    cases s with
    | error e =>
      obtain ⟨-, h0, h6, -⟩ := h.1
      rw [tIsWE (by rw [h6]; exact h0), opL_er]
      simp only [ob_q, bd_q, if_true]
      exact ⟨u, rfl, h, RF.rf⟩
    | ok pc =>
      obtain ⟨p, c⟩ := pc
      have hp := h.1.le
      have hpn : p ≤ n := hp.1
      have hsk : sk B n p = p := hp.2.2
      have h3' := h3 _ rfl
      simp only at h3'
      have wd : wdO 4 B n p = if eqW B p (wsE B n p - p) [111, 114] = true then some 0 else none := wd1e rfl (by decide) hsk
      obtain ⟨u1, e1, l1, c1, f1⟩ := tIsW (w := [111, 114]) (a1 := 15) (a2 := 18) (a3 := 0) (a4 := 0) (a5 := 0) (a6 := 0) (by decide) (by decide) (by decide) h
      rw [e1]
      simp only [ob_q, bd_q]
      by_cases q : eqW B p (wsE B n p - p) [111, 114] = true
      · rw [if_pos q] at wd
        rw [q, if_neg (show ¬ bI true = 0 by decide)]
        have w1 := wdO_st wd hpn wr4
        rw [hsk] at w1
        have w2 := (wsE_le (B := B) hpn).2
        have l2 := sk_le (B := B) w2
        have e : opL (tkw B n 4 10035) f (m + 1) (.ok (p, c)) = opL (tkw B n 4 10035) f m (lE (nI 10035) (f (.ok (sk B n (wsE B n p), c)))) := by
          have : tkw B n 4 10035 p = some (nI 10035, sk B n (wsE B n p)) := by unfold tkw; rw [wd, if_pos rfl]
          simp only [opL, this]
        rw [e]
        obtain ⟨u2, e2, c2, f2⟩ := tSkW c1 l1 w1
        rw [e2]
        simp only [ob_q]
        obtain ⟨u3, e3, c3, f3⟩ := hg _ _ _ c2
        rw [e3]
        simp only [ob_q]
        obtain ⟨u4, e4, c4, f4⟩ := tTells c3 (nI 10035)
        rw [show mX9_tells u3 10035 = some u4 from e4]
        simp only [ob_q]
        obtain ⟨u', e5, c5, f5⟩ := ih z k _ u4 (by omega) (fun pc hpc => by
          obtain ⟨c', d1, -⟩ := lE_ok hpc
          obtain ⟨r, -, a2, -⟩ := hf _ _ _ l2.2 (sk_idem w2) d1
          simp only at a2
          omega) c4
        exact ⟨u', e5, c5, (((f1.tr f2).tr f3).tr f4).tr f5⟩
      · rw [if_neg q] at wd
        rw [eq_false_of_ne_true q, if_pos (show bI false = 0 from rfl)]
        have e : opL (tkw B n 4 10035) f (m + 1) (.ok (p, c)) = .ok (p, c) := by
          have : tkw B n 4 10035 p = none := by unfold tkw; rw [wd, if_neg (by simp)]
          simp only [opL, this]
        rw [e]
        exact ⟨u1, rfl, c1, f1⟩
