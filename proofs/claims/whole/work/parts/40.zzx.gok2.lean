theorem gS_0 {B : Nat → Int32} {n d o : Nat} {s : LSt} : gS B n (d + 1) 0 o s = opL (tks B n 12 10020) (gS B n d 1 o) 401 (gS B n d 1 o s) := by rw [gS.eq_2, if_pos rfl]
theorem gS_1 {B : Nat → Int32} {n d o : Nat} {s : LSt} : gS B n (d + 1) 1 o s = opL (tks B n 13 10022) (gS B n d 2 o) 401 (gS B n d 2 o s) := by rw [gS.eq_2, if_neg (by decide), if_pos rfl]
theorem gS_2 {B : Nat → Int32} {n d o : Nat} {s : LSt} : gS B n (d + 1) 2 o s = unT B n (gS B n d 0 (o + 1)) o s := by rw [gS.eq_2, if_neg (by decide), if_neg (by decide), if_pos rfl]
theorem gS_3 {B : Nat → Int32} {n d o : Nat} {s : LSt} : gS B n (d + 1) 3 o s = opL (tkw B n 4 10035) (gS B n d 4 o) 401 (gS B n d 4 o s) := by rw [gS.eq_2, if_neg (by decide), if_neg (by decide), if_neg (by decide), if_pos rfl]
theorem gS_4 {B : Nat → Int32} {n d o : Nat} {s : LSt} : gS B n (d + 1) 4 o s = opL (tkw B n 5 10034) (gS B n d 5 o) 401 (gS B n d 5 o s) := by rw [gS.eq_2, if_neg (by decide), if_neg (by decide), if_neg (by decide), if_neg (by decide), if_pos rfl]
theorem gS_5 {B : Nat → Int32} {n d o : Nat} {s : LSt} : gS B n (d + 1) 5 o s = onT B n (gS B n d 5 (o + 1)) (gS B n d 3 (o + 1)) (gS B n d 0 o) o s := by rw [gS.eq_2, if_neg (by decide), if_neg (by decide), if_neg (by decide), if_neg (by decide), if_neg (by decide)]
theorem lE_ok {x : Int32} {s : LSt} {pc : Nat × List Int32} (h : lE x s = .ok pc) : ∃ c, s = .ok (pc.1, c) ∧ pc.2 = c ++ [x] := by
  cases s with
  | error e => cases h
  | ok qc => simp only [lE] at h; injection h with h; rw [← h]; exact ⟨qc.2, rfl, rfl⟩
theorem opA_ok {N : Nat} (h1 : 10020 ≤ N) (h2 : N ≤ 10025) (a b : Bool) (st : List Bool) : tyS (nI N) (a :: b :: st) = some (false :: st) := by
  rcases (show N = 10020 ∨ N = 10021 ∨ N = 10022 ∨ N = 10023 ∨ N = 10024 ∨ N = 10025 by omega) with q | q | q | q | q | q <;> subst q <;> rfl
theorem opB_ok {N : Nat} (h1 : 10030 ≤ N) (h2 : N ≤ 10032) (a b : Bool) (st : List Bool) : tyS (nI N) (a :: b :: st) = some (true :: st) := by
  rcases (show N = 10030 ∨ N = 10031 ∨ N = 10032 by omega) with q | q | q <;> subst q <;> rfl
theorem opC_ok {N : Nat} (h1 : 10034 ≤ N) (h2 : N ≤ 10035) (st : List Bool) : tyS (nI N) (true :: true :: st) = some (true :: st) := by
  rcases (show N = 10034 ∨ N = 10035 by omega) with q | q <;> subst q <;> rfl
theorem opN_ok (st : List Bool) : tyS 10033 (true :: st) = some (true :: st) := rfl
def gER (f : LSt → LSt) : Prop := ∀ e, f (.error e) = .error e
theorem opL_er {tk : Nat → Option (Int32 × Nat)} {f : LSt → LSt} (m : Nat) (e : Int32 × Nat) : opL tk f m (.error e) = .error e := by cases m <;> rfl
theorem gS_er {B : Nat → Int32} {n : Nat} : ∀ d w o, gER (gS B n d w o) := by
  intro d
  induction d with
  | zero => intro w o e; rfl
  | succ d ih =>
    intro w o e
    rw [gS.eq_2]
    split
    · rw [ih 1 o e, opL_er]
    · split
      · rw [ih 2 o e, opL_er]
      · split
        · rfl
        · split
          · rw [ih 4 o e, opL_er]
          · split
            · rw [ih 5 o e, opL_er]
            · rfl
theorem unG {B : Nat → Int32} {n o : Nat} {sum1 : LSt → LSt} (ho : o ≤ 6) (her : gER sum1) (h1 : o < 6 → gOK B n false (42 + 3 * o) sum1) : gOK B n false (41 + 3 * o) (unT B n sum1 o) := by
  intro q c pc hq hsk h
  simp only [unT] at h
  by_cases c1 : q < n ∧ isDg (B q) = true
  · rw [if_pos c1] at h
    cases hN : numO 100000 B n q 0 9999 (-1) with
    | error e => rw [hN] at h; cases h
    | ok Ve =>
      obtain ⟨V, e⟩ := Ve
      rw [hN] at h
      injection h with h
      rw [← h]
      obtain ⟨e1, e2⟩ := numO_e hq hN
      have hV := numO_lt (by decide) hN
      have hV2 : V < 10000 := by
        have hh : stN B n (.ok ([], q)) (fun _ => (0, 9999, -1)) = .ok ([V], sk B n e) := by simp only [stN, hN]; rfl
        obtain ⟨a, p, W, g1, g2, g3, -, g4, -⟩ := stN_in hh (fun _ => by decide)
        injection g1 with g1
        injection g1 with g1 _
        rw [← g1] at g2
        have : V = W := by simpa using g2
        have r := inR_rg (a := 0) (b := 9999) (by omega) (by decide) (by decide) g3
        omega
      have l := sk_le (B := B) e1
      rw [hsk] at e2
      refine ⟨[nI V], rfl, ?_, l.2, sk_idem e1, fun st hst => ?_⟩
      · show q + 1 ≤ sk B n e; omega
      · show (tyS (nI V) st).bind _ = _
        rw [push_ok rfl (by omega) st (by omega)]; rfl
  · rw [if_neg c1] at h
    cases hw : wdO 14 B n q with
    | some j =>
      rw [hw] at h
      injection h with h
      rw [← h]
      have w1 := wdO_st hw hq wr14
      rw [hsk] at w1
      have w2 := (wsE_le (B := B) hq).2
      have l := sk_le (B := B) w2
      refine ⟨[nI (10000 + j)], rfl, ?_, l.2, sk_idem w2, fun st hst => ?_⟩
      · show q + 1 ≤ sk B n (wsE B n q); omega
      · show (tyS (nI (10000 + j)) st).bind _ = _
        rw [push_ok rfl (by have := wd14_lt hw; omega) st (by omega)]; rfl
    | none =>
      rw [hw] at h
      simp only at h
      obtain ⟨p1, hp1⟩ : ∃ p1, p1 = (if (wdO 15 B n q).isSome = true then sk B n (wsE B n q) else q) := ⟨_, rfl⟩
      rw [← hp1] at h
      have hp1n : q ≤ p1 ∧ p1 ≤ n ∧ sk B n p1 = p1 := by
        rw [hp1]
        have w0 := wsE_le (B := B) hq
        rw [hsk] at w0
        have l := sk_le (B := B) w0.2
        split
        · exact ⟨by omega, l.2, sk_idem w0.2⟩
        · exact ⟨Nat.le_refl _, hq, hsk⟩
      unfold unTB at h
      by_cases c2 : sgB B n p1 40 = true
      · rw [if_pos c2] at h
        have s1 := sgB_in c2
        rw [hp1n.2.2] at s1
        have l1 := sk_le (B := B) (show p1 + 1 ≤ n by omega)
        by_cases c3 : o < 6
        · rw [if_pos c3] at h
          have H := h1 c3
          cases hpr : wdO 15 B n q with
          | none =>
            rw [hpr] at h
            simp only at h
            obtain ⟨p2, e2, g2, e2'⟩ := lG_ok h
            obtain ⟨r, a1, a2, a3, a4, a5⟩ := H _ _ _ l1.2 (sk_idem (by omega)) e2
            simp only at a1 a2 a3 a4
            have s2 := sgB_in g2
            rw [a4] at s2
            have l2 := sk_le (B := B) (show p2 + 1 ≤ n by omega)
            rw [e2']
            exact ⟨r, a1, by omega, l2.2, sk_idem (by omega), fun st hst => a5 st (by omega)⟩
          | some j =>
            rw [hpr] at h
            simp only at h
            have hj2 := wd15_lt hpr
            obtain ⟨c', e1, e1'⟩ := lE_ok h
            obtain ⟨p2, e2, g2, e2'⟩ := lG_ok e1
            simp only at e2 e2'
            cases hA : sum1 (.ok (sk B n (p1 + 1), c)) with
            | error e => rw [hA, show lG B n (.error e) 44 = .error e from rfl, her] at e2; cases e2
            | ok z =>
              rw [hA] at e2
              obtain ⟨r1, a1, a2, a3, a4, a5⟩ := H _ _ _ l1.2 (sk_idem (by omega)) hA
              cases hB : lG B n (.ok z) 44 with
              | error e => rw [hB, her] at e2; cases e2
              | ok w =>
                rw [hB] at e2
                obtain ⟨p3, e3, g3, e3'⟩ := lG_ok hB
                injection e3 with e3
                have z1 : z.1 = p3 := by rw [e3]
                have z2 : z.2 = w.2 := by rw [e3]
                have s3 := sgB_in g3
                rw [← z1, a4] at s3
                have l3 := sk_le (B := B) (show z.1 + 1 ≤ n by omega)
                rw [← z1] at e3'
                obtain ⟨w1, w2⟩ := w
                simp only at e3' z2 e2
                obtain ⟨r2, b1, b2, b3, b4, b5⟩ := H w1 w2 _ (by rw [e3']; exact l3.2) (by rw [e3']; exact sk_idem (by omega)) e2
                simp only at b1 b2 b3 b4
                have s2 := sgB_in g2
                rw [b4] at s2
                have l2 := sk_le (B := B) (show p2 + 1 ≤ n by omega)
                refine ⟨r1 ++ r2 ++ [nI (10024 + j)], by rw [e1', b1, ← z2, a1, List.append_assoc, List.append_assoc, List.append_assoc], ?_, by rw [e2']; exact l2.2, by rw [e2']; exact sk_idem (by omega), fun st hst => ?_⟩
                · simp only [List.length_append, List.length_cons, List.length_nil]; omega
                · rw [tyL_app, tyL_app, a5 st (by omega)]
                  show ((tyL r2 (false :: st)).bind _) = _
                  rw [b5 (false :: st) (by simp; omega)]
                  show (tyS (nI (10024 + j)) (false :: false :: st)).bind _ = _
                  rw [opA_ok (by omega) (by omega)]; rfl
        · rw [if_neg c3] at h; cases h
      · rw [if_neg c2] at h; cases h
theorem onG {B : Nat → Int32} {n o : Nat} {one1 eith1 sum0 : LSt → LSt} (ho : o ≤ 6) (e5 : gER one1) (e3 : gER eith1) (e0 : gER sum0) (h5 : o < 6 → gOK B n true (41 + 3 * o) one1) (h3 : o < 6 → gOK B n true (39 + 3 * o) eith1) (h0 : gOK B n false (39 + 3 * o) sum0) : gOK B n true (38 + 3 * o) (onT B n one1 eith1 sum0 o) := by
  intro q c pc hq hsk h
  simp only [onT] at h
  by_cases c1 : wdO 6 B n q = some 0
  · rw [if_pos c1] at h
    have w1 := wdO_st c1 hq wr6
    rw [hsk] at w1
    have w2 := (wsE_le (B := B) hq).2
    have l := sk_le (B := B) w2
    by_cases c2 : o < 6
    · rw [if_pos c2] at h
      obtain ⟨c', d1, d2⟩ := lE_ok h
      obtain ⟨r, a1, a2, a3, a4, a5⟩ := h5 c2 _ _ _ l.2 (sk_idem w2) d1
      simp only at a1 a2 a3 a4
      refine ⟨r ++ [10033], by rw [d2, a1, List.append_assoc], ?_, a3, a4, fun st hst => ?_⟩
      · simp only [List.length_append, List.length_cons, List.length_nil]; omega
      · rw [tyL_app, a5 st (by omega)]; rfl
    · rw [if_neg c2] at h; cases h
  · rw [if_neg c1] at h
    by_cases c2 : sgB B n q 91 = true
    · rw [if_pos c2] at h
      have s1 := sgB_in c2
      rw [hsk] at s1
      have l := sk_le (B := B) (show q + 1 ≤ n by omega)
      by_cases c3 : o < 6
      · rw [if_pos c3] at h
        obtain ⟨p2, d1, g2, d2⟩ := lG_ok h
        obtain ⟨r, a1, a2, a3, a4, a5⟩ := h3 c3 _ _ _ l.2 (sk_idem (by omega)) d1
        simp only at a1 a2 a3 a4
        have s2 := sgB_in g2
        rw [a4] at s2
        have l2 := sk_le (B := B) (show p2 + 1 ≤ n by omega)
        exact ⟨r, a1, by omega, by rw [d2]; exact l2.2, by rw [d2]; exact sk_idem (by omega), fun st hst => a5 st (by omega)⟩
      · rw [if_neg c3] at h; cases h
    · rw [if_neg c2] at h
      cases hA : sum0 (.ok (q, c)) with
      | error e => rw [hA] at h; cases h
      | ok z =>
        rw [hA] at h
        simp only at h
        obtain ⟨r1, a1, a2, a3, a4, a5⟩ := h0 _ _ _ hq hsk hA
        cases hg : sgO 9 B n z.1 with
        | none => rw [hg] at h; cases h
        | some j =>
          rw [hg] at h
          simp only at h
          have s1 := sgO_in hg
          rw [a4] at s1
          have hj : j < 3 := sgO_j hg
          have l := sk_le (B := B) (show z.1 + 1 ≤ n by omega)
          obtain ⟨c', d1, d2⟩ := lE_ok h
          obtain ⟨r2, b1, b2, b3, b4, b5⟩ := h0 _ _ _ l.2 (sk_idem (by omega)) d1
          simp only at b1 b2 b3 b4
          refine ⟨r1 ++ r2 ++ [nI (10030 + j)], by rw [d2, b1, a1, List.append_assoc, List.append_assoc, List.append_assoc], ?_, b3, b4, fun st hst => ?_⟩
          · simp only [List.length_append, List.length_cons, List.length_nil]; omega
          · rw [tyL_app, tyL_app, a5 st (by omega)]
            show ((tyL r2 (false :: st)).bind _) = _
            rw [b5 (false :: st) (by simp; omega)]
            show (tyS (nI (10030 + j)) (false :: false :: st)).bind _ = _
            rw [opB_ok (by omega) (by omega)]; rfl
def gBd (w o : Nat) : Nat := 3 * o + if w = 0 then 39 else if w = 1 then 40 else if w = 2 then 41 else if w = 3 then 36 else if w = 4 then 37 else 38
theorem gOK.mo {B : Nat → Int32} {n b b' : Nat} {t : Bool} {f : LSt → LSt} (h : gOK B n t b f) (hb : b' ≤ b) : gOK B n t b' f := fun q c pc h1 h2 h3 => by
  obtain ⟨r, a1, a2, a3, a4, a5⟩ := h q c pc h1 h2 h3
  exact ⟨r, a1, a2, a3, a4, fun st hst => a5 st (by omega)⟩
/-- what all readers give -/
theorem gS_ok {B : Nat → Int32} {n : Nat} : ∀ d w o, w < 6 → o ≤ 6 → gNd w o ≤ d → gOK B n (decide (3 ≤ w)) (gBd w o) (gS B n d w o) := by
  intro d
  induction d with
  | zero => intro w o hw ho hd; exfalso; unfold gNd at hd; split at hd <;> (try omega); split at hd <;> (try omega); split at hd <;> (try omega); split at hd <;> (try omega); split at hd <;> omega
  | succ d ih =>
    intro w o hw ho hd
    match w, hw with
    | 0, _ =>
      rw [show gS B n (d + 1) 0 o = fun s => opL (tks B n 12 10020) (gS B n d 1 o) 401 (gS B n d 1 o s) from funext fun s => gS_0]
      have hd' : (6 - o) * 6 + 3 ≤ d + 1 := hd
      exact opG (tks_ok (i := 12) fun j hj st => opA_ok (by omega) (by have : j < 2 := hj; omega) _ _ st) ((ih 1 o (by decide) ho (show (6 - o) * 6 + 2 ≤ d by omega)).mo (show 3 * o + 39 + 1 ≤ 3 * o + 40 by omega)) 401
    | 1, _ =>
      rw [show gS B n (d + 1) 1 o = fun s => opL (tks B n 13 10022) (gS B n d 2 o) 401 (gS B n d 2 o s) from funext fun s => gS_1]
      have hd' : (6 - o) * 6 + 2 ≤ d + 1 := hd
      exact opG (tks_ok (i := 13) fun j hj st => opA_ok (by omega) (by have : j < 2 := hj; omega) _ _ st) ((ih 2 o (by decide) ho (show (6 - o) * 6 + 1 ≤ d by omega)).mo (show 3 * o + 40 + 1 ≤ 3 * o + 41 by omega)) 401
    | 2, _ =>
      rw [show gS B n (d + 1) 2 o = fun s => unT B n (gS B n d 0 (o + 1)) o s from funext fun s => gS_2]
      have hd' : (6 - o) * 6 + 1 ≤ d + 1 := hd
      exact (unG ho (gS_er _ _ _) (fun h => (ih 0 (o + 1) (by decide) (by omega) (show (6 - (o + 1)) * 6 + 3 ≤ d by omega)).mo (show 42 + 3 * o ≤ 3 * (o + 1) + 39 by omega))).mo (show 3 * o + 41 ≤ 41 + 3 * o by omega)
    | 3, _ =>
      rw [show gS B n (d + 1) 3 o = fun s => opL (tkw B n 4 10035) (gS B n d 4 o) 401 (gS B n d 4 o s) from funext fun s => gS_3]
      have hd' : (6 - o) * 6 + 6 ≤ d + 1 := hd
      exact opG (tkw_ok wr4 fun st => opC_ok (by decide) (by decide) st) ((ih 4 o (by decide) ho (show (6 - o) * 6 + 5 ≤ d by omega)).mo (show 3 * o + 36 + 1 ≤ 3 * o + 37 by omega)) 401
    | 4, _ =>
      rw [show gS B n (d + 1) 4 o = fun s => opL (tkw B n 5 10034) (gS B n d 5 o) 401 (gS B n d 5 o s) from funext fun s => gS_4]
      have hd' : (6 - o) * 6 + 5 ≤ d + 1 := hd
      exact opG (tkw_ok wr5 fun st => opC_ok (by decide) (by decide) st) ((ih 5 o (by decide) ho (show (6 - o) * 6 + 4 ≤ d by omega)).mo (show 3 * o + 37 + 1 ≤ 3 * o + 38 by omega)) 401
    | 5, _ =>
      rw [show gS B n (d + 1) 5 o = fun s => onT B n (gS B n d 5 (o + 1)) (gS B n d 3 (o + 1)) (gS B n d 0 o) o s from funext fun s => gS_5]
      have hd' : (6 - o) * 6 + 4 ≤ d + 1 := hd
      exact (onG ho (gS_er _ _ _) (gS_er _ _ _) (gS_er _ _ _) (fun h => (ih 5 (o + 1) (by decide) (by omega) (show (6 - (o + 1)) * 6 + 4 ≤ d by omega)).mo (show 41 + 3 * o ≤ 3 * (o + 1) + 38 by omega)) (fun h => (ih 3 (o + 1) (by decide) (by omega) (show (6 - (o + 1)) * 6 + 6 ≤ d by omega)).mo (show 39 + 3 * o ≤ 3 * (o + 1) + 36 by omega)) ((ih 0 o (by decide) ho (show (6 - o) * 6 + 3 ≤ d by omega)).mo (show 39 + 3 * o ≤ 3 * o + 39 by omega))).mo (show 3 * o + 38 ≤ 38 + 3 * o by omega)
