def Step64 (l : List Nat) (cf : HS → Option (Nat × Int64 × HS)) (rf : HS → Option (Int64 × HS)) : Prop := ∀ u, IV u → ∃ k v u1 b u2, cf u = some (k, v, u1) ∧ rf u1 = some (b, u2) ∧ gI u2 9 0 0 = kmL l k ∧ (k = 0 → v = b) ∧ (k = 0 ∨ k ∈ l) ∧ IV u2
/-- a call that throws nothing -/
def StepN (cf rf : HS → Option (Int32 × HS)) : Prop := ∀ u, IV u → ∃ v u1 u2, cf u = some (v, u1) ∧ rf u1 = some (v, u2) ∧ gI u2 9 0 0 = 0 ∧ IV u2
/-- is a looker's reply one that the odds heed -/
def akB (p : IP) (u : HS) (l : Nat) : Bool := decide (lkF u l 2 = 0) && decide (lkF u l 3 ≠ -1) && decide (oddS (pC p (loS u l)) ≠ -1)
def alB (p : IP) (u : HS) (q l : Nat) : Bool := decide (yeS (loJ p u q l) 0 = decide (lkF u l 3 = 1))
theorem QF.ak {p : IP} {u v : HS} (hF : QF u v) : akB p v = akB p u := by
  funext l
  have h := hF.lo (p := p) 0 l
  unfold akB
  rw [h.1, hF.lk2]
theorem QF.al {p : IP} {u v : HS} (hF : QF u v) (q : Nat) : alB p v q = alB p u q := by
  funext l
  have h := hF.lo (p := p) q l
  unfold alB
  rw [h.2.2.2, hF.lk2]
theorem IVc.heard {p : IP} {u : HS} (h : IVc p u) {l : Nat} (hl : l < pN p) : mX8_isHeard u (nI l) = some (bI (akB p u l)) := by
  obtain ⟨l14, ls, lt, -⟩ := h.lk hl
  have a4 := (h.2.2.1 _ ls).2.2.1.2.2.2.2.1
  unfold mX8_isHeard akB
  rw [h.sceneFor hl]
  simp only [ob_q, a4]
  by_cases c0 : oddS (pC p (loS u l)) = -1
  · rw [if_pos c0]; simp [c0, bI]
  · rw [if_neg c0, h.kno hl]
    simp only [ob_q, bI_0]
    by_cases c1 : lkF u l 2 = 0
    · rw [if_pos (by simp [c1]), show mX0_reply u 0 (nI l) 0 = _ from h.rep hl (show 0 < 3 by decide)]
      simp only [ob_q, Nat.add_zero]
      by_cases c2 : lkF u l 3 = -1
      · rw [if_pos c2]; simp [c2, bI]
      · rw [if_neg c2]; simp [c0, c1, c2, bI]
    · rw [if_neg (by simp [c1])]; simp [c1, bI]
theorem IVc.asked {p : IP} {u : HS} (h : IVc p u) {l : Nat} (hl : l < pN p) : mX9_isAsked u (nI l) = some (bI (akB p u l)) := by
  obtain ⟨l14, ls, lt, l0, -, -, -, lf⟩ := h.lk hl
  have hs' := (h.2.2.1 _ ls).1
  unfold mX9_isAsked akB
  simp only [ck_nI (show l < 15 by omega) (show 15 < 2 ^ 31 by decide), ob_q, show ck 8 2 = some 2 from by decide, show ck 8 3 = some 3 from by decide, c8_0, lf, ← h.2.2.2.2.2.1.1.1]
  rw [show lkF u l 0 = nI (loS u l) from by rw [← lf]; exact l0, rOdd hs']
  simp only [ob_q]
  by_cases c1 : lkF u l 2 = 0
  · rw [if_pos c1]
    by_cases c2 : lkF u l 3 = -1
    · rw [if_pos c2]; simp [c2, bI]
    · rw [if_neg c2]
      by_cases c0 : oddS (pC p (loS u l)) = -1
      · rw [if_pos c0]; simp [c0, bI]
      · rw [if_neg c0]; simp [c0, c1, c2, bI]
  · rw [if_neg c1]; simp [c1, bI]
theorem IV.alike {p : IP} {u : HS} (h : IVc p u) {l q : Nat} (hl : l < pN p) (hq : q < pNl p) : ∃ u', mX9_isAlike u (nI q) (nI l) = some (bI (alB p u q l), u') ∧ Fr [78, 79] [41, 42] u u' := by
  obtain ⟨l14, ls, lt, l0, -, -, -, lf⟩ := h.lk hl
  obtain ⟨u1, e1, f1⟩ := IV.says h hl hq (show 0 < 3 by decide)
  unfold mX9_isAlike alB
  rw [show mX9_saysBy u (nI q) (nI l) 0 = _ from e1]
  simp only [ob_q, bd_q, ck_nI (show l < 15 by omega) (show 15 < 2 ^ 31 by decide), show ck 8 3 = some 3 from by decide, f1.m1 (show 81 ∉ [78, 79] by decide) (by decide), lf]
  refine ⟨u1, ?_, f1⟩
  by_cases c : lkF u l 3 = 1
  · rw [if_pos c]
    cases yeS (loJ p u q l) 0 <;> simp [c, bI]
  · rw [if_neg c]
    cases yeS (loJ p u q l) 0 <;> simp [c, bI]
def odF (p : IP) (u : HS) (q : Nat) (y : Int64) (l : Nat) : Int64 := if akB p u l = true then y * (if alB p u q l = true then (16 - gI u 9 0 31).toInt64 else (gI u 9 0 31).toInt64) else y
def odS (p : IP) (u : HS) (q : Nat) : Int64 := (List.range (pN p)).foldl (odF p u q) (gI u 77 0 q).toInt64
theorem QF.od {p : IP} {u v : HS} (hF : QF u v) (q : Nat) : odF p v q = odF p u q ∧ odS p v q = odS p u q := by
  have e : odF p v q = odF p u q := by
    funext y l
    unfold odF
    rw [hF.ak, hF.al, hF.2.2.1 31 (by decide)]
  refine ⟨e, ?_⟩
  unfold odS
  rw [e, hF.m1 (show 77 ∉ [4, 7, 44, 46, 47, 48, 54, 78, 79, 81] by decide) (by decide)]
theorem IVc.wt {p : IP} {u : HS} (h : IVc p u) : (∀ l, l < 4 → gI u 31 0 l = gI u 77 0 l) ∧ gI u 0 0 16 = gI u 9 0 31 := h.2.2.2.2.2.1.2.1.2.2.2
theorem IV.oddsC {p : IP} {u : HS} (h : IVc p u) (hv : IVs p u) {q : Nat} (hq : q < pNl p) : ∃ u', (QF u u' ∧ IVs p u') ∧ mX8_oddsOf u (nI q) = some (odS p u q, u') := by
  have n14 := h.n14
  have q4 := h.1.1.2.2.1
  unfold mX8_oddsOf
  rw [ck_nI (show q < 4 by omega) (by decide)]
  simp only [ob_q, bd_q, jp_q]
  rw [h.wt.1 q (by omega)]
  refine foldL (L := mX8_oddsOf_L14 (nI q) (fun x v => some (x, v))) (w := fun x v => some (x, v)) (by omega) (fun v => QF u v ∧ IVs p v) (odF p u q) ?_ ?_ ⟨QF.rf, hv⟩ _
  · intro fu y v k hk ⟨hqa, hva⟩
    have ha' := hqa.c h
    rw [mX8_oddsOf_L14.eq_2, ha'.hn, if_neg (nI_ge hk (by omega)), ha'.heard hk, hqa.ak]
    simp only [ob_q, bd_q, jp_q, nI_1, bI_0]
    unfold odF
    cases c1 : akB p u k with
    | false => rw [if_pos rfl, if_neg (by decide)]; exact ⟨v, ⟨hqa, hva⟩, rfl⟩
    | true =>
      rw [if_neg (by decide), if_pos rfl]
      obtain ⟨v1, e1, f1, s1⟩ := IV.stateOf ha' hva hk hq
      have q1 := hqa.tr (f1.qf (fun r hr => hr))
      rw [(hqa.lo (p := p) q k).2.2.2] at e1
      have hb := q1.c h
      rw [e1]
      simp only [ob_q]
      rw [show mX8_isYes (loJ p u q k) 0 = _ from cYes _ (show 0 < 3 by decide), show mX0_reply v1 0 (nI k) 0 = _ from hb.rep hk (show 0 < 3 by decide)]
      simp only [ob_q, Nat.add_zero, hb.wt.2, q1.lk2, q1.2.2.1 31 (by decide)]
      refine ⟨v1, ⟨q1, s1⟩, ?_⟩
      unfold alB
      by_cases c : lkF u k 3 = 1
      · rw [if_pos c]
        cases yeS (loJ p u q k) 0 <;> simp [c, bI]
      · rw [if_neg c]
        cases yeS (loJ p u q k) 0 <;> simp [c, bI]
  · intro fu y v ⟨hqa, hva⟩
    rw [mX8_oddsOf_L14.eq_2, (hqa.c h).hn, if_pos (nI_le (Nat.le_refl _) (by omega))]
theorem IV.oddsR {p : IP} {u : HS} (h : IVc p u) {q : Nat} (hq : q < pNl p) : ∃ u', Fr [78, 79] [41, 42] u u' ∧ mX9_oddsOf u (nI q) = some (odS p u q, u') := by
  have n14 := h.n14
  have q4 := h.1.1.2.2.1
  unfold mX9_oddsOf
  rw [ck_nI (show q < 4 by omega) (by decide)]
  simp only [ob_q, bd_q, jp_q]
  refine foldL (L := mX9_oddsOf_L11 (nI q) (fun x v => some (x, v))) (w := fun x v => some (x, v)) (by omega) (fun v => Fr [78, 79] [41, 42] u v) (odF p u q) ?_ ?_ Fr.rf _
  · intro fu y v k hk hF
    have hqa : QF u v := hF.qf (by decide) (by decide)
    have ha' := hqa.c h
    rw [mX9_oddsOf_L11.eq_2, ha'.rn, if_neg (nI_ge hk (by omega)), ha'.asked hk, hqa.ak]
    simp only [ob_q, bd_q, jp_q, nI_1, bI_0]
    unfold odF
    cases c1 : akB p u k with
    | false => rw [if_pos rfl, if_neg (by decide)]; exact ⟨v, hF, rfl⟩
    | true =>
      rw [if_neg (by decide), if_pos rfl]
      obtain ⟨v1, e1, f1⟩ := IV.alike ha' hk hq
      have q1 : QF u v1 := hqa.tr (f1.qf (by decide) (by decide))
      rw [hqa.al] at e1
      rw [e1]
      simp only [ob_q, q1.2.2.1 31 (by decide)]
      refine ⟨v1, hF.tr f1, ?_⟩
      cases alB p u q k <;> simp [bI]
  · intro fu y v hF
    have hqa : QF u v := hF.qf (by decide) (by decide)
    rw [mX9_oddsOf_L11.eq_2, (hqa.c h).rn, if_pos (nI_le (Nat.le_refl _) (by omega))]
theorem s_odds (x1 : Int32) : Step64 [3] (fun u => mX8_odds u x1) (fun u => mX9_odds u x1) := by
  intro u hI
  have ⟨p, h, hv⟩ := hI
  have hw := w0c h
  have q4 := h.1.1.2.2.1
  cases b1 : inB x1 (pNl p) with
  | false =>
    refine ⟨3, 0, u, 0, wI (w0 u) 9 0 0 1, ?_, ?_, by rw [gI_eq]; decide, fun q => absurd q (by decide), Or.inr (by decide), p, (QF.w0.tr QF.w0).c h, (QF.w0.tr QF.w0).s (by rw [gI_r (by decide), gI_r (by decide)]) hv⟩
    · unfold mX8_odds; simp only [bd_q, jp_q, ob_q, on_q, if_true, if_false, Bool.false_eq_true, Bool.true_eq_false, Bool.not_true, Bool.not_false, pr99, pr9, pr8, cReqS h, cReqT h, cReqQ h, cReqL h, cReqB, cReq0, cReq1, cTenthB, cAskB, cFitB, xqz, xq1, xq2, xq3, pl2, pl3, pl4, pl5, pl14, pl40, pl50, pl100, pl999, pe3, pe11, pe30, pe40, pe300, bI_if, bI_0, b1]
    · unfold mX9_odds; simp only [bd_q, jp_q, ob_q, on_q, if_true, if_false, Bool.false_eq_true, Bool.true_eq_false, Bool.not_true, Bool.not_false, ir99, ir9, ir8, w0e, rIsS hw, rIsT hw, rIsQ hw, rIsL hw, rBad w00 _ (show (1 : Int32) ≠ 0 by decide), rBad w00 _ (show (2 : Int32) ≠ 0 by decide), rBad w00 _ (show (3 : Int32) ≠ 0 by decide), rBad1 w00 (show (1 : Int32) ≠ 0 by decide), rBad1 w00 (show (2 : Int32) ≠ 0 by decide), rBad1 w00 (show (3 : Int32) ≠ 0 by decide), rBad0 w00 (show (1 : Int32) ≠ 0 by decide), rBad0 w00 (show (2 : Int32) ≠ 0 by decide), rBad0 w00 (show (3 : Int32) ≠ 0 by decide), e10, in2, in3, in4, in5, in10, in14, in29, in39, in40, in50, in100, in299, in999, bI_nn, bI_0, b1]
  | true =>
  obtain ⟨q, hq, rfl⟩ := inB_t (by omega) b1
  obtain ⟨u1, ⟨q1, hv1⟩, e1⟩ := IV.oddsC h hv hq
  have hw1 := w0c (q1.c h)
  obtain ⟨u2, f2, e2⟩ := IV.oddsR hw1 hq
  have qw : QF u (w0 u1) := q1.tr QF.w0
  rw [(qw.od (p := p) q).2] at e2
  have q2 := QF.w0.tr (f2.qf (by decide) (by decide))
  refine ⟨0, odS p u q, u1, odS p u q, u2, ?_, ?_, by rw [f2.2.1 0 (by simp), w00]; rfl, fun _ => rfl, Or.inl rfl, p, q2.c (q1.c h), q2.s (by rw [f2.m1 (by decide) (by decide), w054]) hv1⟩
  · unfold mX8_odds; simp only [bd_q, jp_q, ob_q, on_q, if_true, if_false, Bool.false_eq_true, Bool.true_eq_false, Bool.not_true, Bool.not_false, pr99, pr9, pr8, cReqS h, cReqT h, cReqQ h, cReqL h, cReqB, cReq0, cReq1, cTenthB, cAskB, cFitB, xqz, xq1, xq2, xq3, pl2, pl3, pl4, pl5, pl14, pl40, pl50, pl100, pl999, pe3, pe11, pe30, pe40, pe300, bI_if, bI_0, b1, e1]
  · have hw := hw1
    unfold mX9_odds; simp only [bd_q, jp_q, ob_q, on_q, if_true, if_false, Bool.false_eq_true, Bool.true_eq_false, Bool.not_true, Bool.not_false, ir99, ir9, ir8, w0e, rIsS hw, rIsT hw, rIsQ hw, rIsL hw, rBad w00 _ (show (1 : Int32) ≠ 0 by decide), rBad w00 _ (show (2 : Int32) ≠ 0 by decide), rBad w00 _ (show (3 : Int32) ≠ 0 by decide), rBad1 w00 (show (1 : Int32) ≠ 0 by decide), rBad1 w00 (show (2 : Int32) ≠ 0 by decide), rBad1 w00 (show (3 : Int32) ≠ 0 by decide), rBad0 w00 (show (1 : Int32) ≠ 0 by decide), rBad0 w00 (show (2 : Int32) ≠ 0 by decide), rBad0 w00 (show (3 : Int32) ≠ 0 by decide), e10, in2, in3, in4, in5, in10, in14, in29, in39, in40, in50, in100, in299, in999, bI_nn, bI_0, b1, e2]

/-! the odds are over zero -/
theorem i64_mul {a b : Int64} {m n : Nat} (ha : a.toInt = m) (hb : b.toInt = n) (h : m * n < 2 ^ 63) : (a * b).toInt = (m * n : Nat) := by
  rw [Int64.toInt_mul, ha, hb, ← Int.natCast_mul]
  generalize m * n = z at h
  exact Int.bmod_eq_of_le (by omega) (by omega)
theorem VW.fac {nl : Nat} {wt : Nat → Int32} {sl : Int32} (h : VW nl wt sl) (b : Bool) : ∃ m : Nat, 1 ≤ m ∧ m ≤ 15 ∧ (if b = true then (16 - sl).toInt64 else sl.toInt64).toInt = m := by
  obtain ⟨-, -, v, h1, h2, e⟩ := h
  cases b with
  | false => exact ⟨v, h1, by omega, by rw [if_neg (by decide), Int32.toInt_toInt64, e, nI_toInt (by omega)]⟩
  | true =>
    refine ⟨16 - v, by omega, by omega, ?_⟩
    rw [if_pos rfl, Int32.toInt_toInt64, e, show (16 : Int32) - nI v = nI 16 - nI v from rfl, show nI 16 - nI v = nI (16 - v) from by
      apply Int32.toInt_inj.mp; rw [pk_sub_toInt (by decide) (by omega), nI_toInt (by omega)]; omega, nI_toInt (by omega)]
theorem odP {p : IP} {u : HS} (h : VW (pNl p) (gI u 77 0) (gI u 9 0 31)) {q : Nat} (hq : q < 4) (k : Nat) (hk : k ≤ 14) : ∃ m : Nat, 1 ≤ m ∧ m ≤ 9 * 15 ^ k ∧ ((List.range k).foldl (odF p u q) (gI u 77 0 q).toInt64).toInt = m := by
  induction k with
  | zero =>
    obtain ⟨v, h1, h2, e⟩ := h.1 q hq
    exact ⟨v, h1, by simp; omega, by show (gI u 77 0 q).toInt64.toInt = _; rw [Int32.toInt_toInt64, e, nI_toInt (by omega)]⟩
  | succ k ih =>
    obtain ⟨m, h1, h2, e⟩ := ih (by omega)
    rw [rsucc]
    unfold odF
    have h3 : 9 * 15 ^ k ≤ 9 * 15 ^ 13 := Nat.mul_le_mul_left 9 (Nat.pow_le_pow_right (by decide) (by omega))
    have h4 : (9 : Nat) * 15 ^ 13 = 17515755615234375 := by decide
    have h5 : 9 * 15 ^ (k + 1) = 9 * 15 ^ k * 15 := by rw [Nat.pow_succ, Nat.mul_assoc]
    cases akB p u k with
    | false => exact ⟨m, h1, by rw [h5]; omega, by rw [if_neg (by decide)]; exact e⟩
    | true =>
      obtain ⟨f, f1, f2, ef⟩ := h.fac (alB p u q k)
      rw [if_pos rfl]
      have hle : m * f ≤ 9 * 15 ^ k * 15 := Nat.mul_le_mul h2 f2
      exact ⟨m * f, Nat.mul_pos h1 f1, by rw [h5]; exact hle, i64_mul e ef (by omega)⟩
theorem IVc.vw {p : IP} {u : HS} (h : IVc p u) : VW (pNl p) (gI u 77 0) (gI u 9 0 31) := h.2.2.2.2.2.1.2.2.2.2.2
theorem IVc.oddsPos {p : IP} {u : HS} (h : IVc p u) {q : Nat} (hq : q < pNl p) : ∃ m : Nat, 1 ≤ m ∧ m ≤ 262736334228515625 ∧ (odS p u q).toInt = m := by
  have n14 := h.n14
  obtain ⟨m, h1, h2, e⟩ := odP h.vw (q := q) (by have := h.1.1.2.2.1; omega) (pN p) n14
  have h3 : 9 * 15 ^ pN p ≤ 9 * 15 ^ 14 := Nat.mul_le_mul_left 9 (Nat.pow_le_pow_right (by decide) (by omega))
  have h4 : (9 : Nat) * 15 ^ 14 = 262736334228515625 := by decide
  exact ⟨m, h1, by omega, e⟩
/-! best -/
def beF (od : Nat → Int64) (a : Int32 × Int64) (q : Nat) : Int32 × Int64 := if lg_cmp (od q) a.2 ≤ 0 then a else (nI q, od q)
theorem IVc.nl {p : IP} {u : HS} (h : IVc p u) : gI u 8 0 6 = nI (pNl p) := h.1.2.1.2.2.1
theorem IVc.rl {p : IP} {u : HS} (h : IVc p u) : gI u 9 0 16 = nI (pNl p) := h.1.2.2.2.2.1
theorem IV.bestC {p : IP} {u : HS} (h : IVc p u) (hv : IVs p u) : ∃ u', (QF u u' ∧ IVs p u') ∧ mX8_best u = some (((List.range (pNl p)).foldl (beF (odS p u)) (-1, 0)).1, u') := by
  have q4 := h.1.1.2.2.1
  have hcF : ∀ k, k ≤ pNl p → (List.range k).foldl (fun (a : Int32 × Int64) q => if a.1 = -1 then (nI q, odS p u q) else if lg_cmp (odS p u q) a.2 ≤ 0 then a else (nI q, odS p u q)) (-1, 0) = (List.range k).foldl (beF (odS p u)) (-1, 0) ∧ (((List.range k).foldl (beF (odS p u)) (-1, 0)).1 = -1 → ((List.range k).foldl (beF (odS p u)) (-1, 0)).2 = 0) := by
    intro k
    induction k with
    | zero => exact fun _ => ⟨rfl, fun _ => rfl⟩
    | succ k ih =>
      intro hk
      obtain ⟨e1, e2⟩ := ih (by omega)
      rw [rsucc, rsucc, e1]
      generalize (List.range k).foldl (beF (odS p u)) (-1, 0) = a at e2
      obtain ⟨m, m1, m2, em⟩ := h.oddsPos (show k < pNl p by omega)
      unfold beF
      by_cases c : a.1 = -1
      · rw [if_pos c]
        have : ¬ lg_cmp (odS p u k) a.2 ≤ 0 := by
          rw [lg_cmp_le, e2 c, Int64.le_iff_toInt_le, em, show (0 : Int64).toInt = 0 from rfl]; omega
        rw [if_neg this]
        exact ⟨rfl, fun z => absurd z (nI_m1 (by omega))⟩
      · rw [if_neg c]
        by_cases d : lg_cmp (odS p u k) a.2 ≤ 0
        · rw [if_pos d]; exact ⟨rfl, e2⟩
        · rw [if_neg d]; exact ⟨rfl, fun z => absurd z (nI_m1 (by omega))⟩
  unfold mX8_best
  simp only [jp_q]
  rw [← (hcF (pNl p) (Nat.le_refl _)).1]
  refine foldL (L := fun fu (a : Int32 × Int64) i v => mX8_best_L7 (fun x v => some (x, v)) fu a.1 a.2 i v) (w := fun a v => some (a.1, v)) (by omega) (fun v => QF u v ∧ IVs p v) _ ?_ ?_ ⟨QF.rf, hv⟩ (-1, 0)
  · intro fu ⟨x, y⟩ v k hk ⟨hqa, hva⟩
    have ha' := hqa.c h
    show ∃ v', _ ∧ mX8_best_L7 (fun x v => some (x, v)) (fu + 1) x y (nI k) v = _
    obtain ⟨v1, ⟨q1, s1⟩, e1⟩ := IV.oddsC ha' hva hk
    rw [(hqa.od (p := p) k).2] at e1
    rw [mX8_best_L7.eq_2, ha'.nl, if_neg (nI_ge hk (by omega)), e1]
    simp only [ob_q, bd_q, jp_q, nI_1]
    refine ⟨v1, ⟨hqa.tr q1, s1⟩, ?_⟩
    by_cases c : x = -1
    · rw [if_pos c, if_pos c]
    · rw [if_neg c, if_neg c]
      by_cases d : lg_cmp (odS p u k) y ≤ 0
      · rw [if_pos d, if_pos d]
      · rw [if_neg d, if_neg d]
  · intro fu ⟨x, y⟩ v ⟨hqa, hva⟩
    show mX8_best_L7 (fun x v => some (x, v)) (fu + 1) x y (nI (pNl p)) v = _
    rw [mX8_best_L7.eq_2, (hqa.c h).nl, if_pos (nI_le (Nat.le_refl _) (by omega))]
theorem QF.ods {p : IP} {u v : HS} (hF : QF u v) : odS p v = odS p u := funext fun q => (hF.od (p := p) q).2
theorem s_best : StepN mX8_best mX9_best := by
  intro u hI
  have ⟨p, h, hv⟩ := hI
  have q4 := h.1.1.2.2.1
  obtain ⟨u1, ⟨q1, hv1⟩, e1⟩ := IV.bestC h hv
  have hw1 := w0c (q1.c h)
  have qw : QF u (w0 u1) := q1.tr QF.w0
  have hr : ∃ u2, Fr [78, 79] [41, 42] (w0 u1) u2 ∧ mX9_best_L12 (fun x v => some (x, v)) FU (-1) 0 0 (w0 u1) = some (((List.range (pNl p)).foldl (beF (odS p u)) (-1, 0)).1, u2) := by
    refine foldL (L := fun fu (a : Int32 × Int64) i v => mX9_best_L12 (fun x v => some (x, v)) fu a.1 a.2 i v) (w := fun a v => some (a.1, v)) (n := pNl p) (by omega) (fun v => Fr [78, 79] [41, 42] (w0 u1) v) (beF (odS p u)) ?_ ?_ Fr.rf (-1, 0)
    · intro fu ⟨x, y⟩ v k hk hF
      have hqa : QF u v := qw.tr (hF.qf (by decide) (by decide))
      have ha' := hqa.c h
      show ∃ v', _ ∧ mX9_best_L12 (fun x v => some (x, v)) (fu + 1) x y (nI k) v = _
      obtain ⟨v1, f1, e1⟩ := IV.oddsR ha' hk
      rw [(hqa.od (p := p) k).2] at e1
      rw [mX9_best_L12.eq_2, ha'.rl, if_neg (nI_ge hk (by omega)), e1]
      simp only [ob_q, bd_q, jp_q, nI_1]
      refine ⟨v1, hF.tr f1, ?_⟩
      unfold beF
      by_cases d : lg_cmp (odS p u k) y ≤ 0
      · rw [if_pos d, if_pos d, if_pos d]; rfl
      · rw [if_neg d, if_neg d, if_neg d]; rfl
    · intro fu ⟨x, y⟩ v hF
      have hqa : QF u v := qw.tr (hF.qf (by decide) (by decide))
      show mX9_best_L12 (fun x v => some (x, v)) (fu + 1) x y (nI (pNl p)) v = _
      rw [mX9_best_L12.eq_2, (hqa.c h).rl, if_pos (nI_le (Nat.le_refl _) (by omega))]
  obtain ⟨u2, f2, e2⟩ := hr
  have q2 := QF.w0.tr (f2.qf (by decide) (by decide))
  refine ⟨_, u1, u2, e1, ?_, by rw [f2.2.1 0 (by simp), w00], p, q2.c (q1.c h), q2.s (by rw [f2.m1 (by decide) (by decide), w054]) hv1⟩
  unfold mX9_best
  simp only [bd_q, jp_q, w0e]
  exact e2
/-! fits -/
def ftF (p : IP) (u : HS) (q : Nat) (b : Int32) (l : Nat) : Int32 := if (akB p u l && !alB p u q l) = true then b + 1 else b
def ftS (p : IP) (u : HS) (q : Nat) : Int32 := (List.range (pN p)).foldl (ftF p u q) 0
def fgB (p : IP) (u : HS) (m : Int32) (q : Nat) : Bool := !decide (m < ftS p u q)
def fgF (f : Nat → Bool) (b : Int32) (q : Nat) : Int32 := b ||| (if f q = true then (1 : Int32) <<< (nI q &&& 31) else 0)
theorem QF.fg {p : IP} {u v : HS} (hF : QF u v) (m : Int32) : fgB p v m = fgB p u m := by
  funext q
  unfold fgB ftS
  have : ftF p v q = ftF p u q := by funext b l; unfold ftF; rw [hF.ak, hF.al]
  rw [this]
theorem IV.fitC {p : IP} {u : HS} (h : IVc p u) (hv : IVs p u) (m : Int32) : ∃ u', (QF u u' ∧ IVs p u') ∧ mX8_fitting u m = some ((List.range (pNl p)).foldl (fgF (fgB p u m)) 0, u') := by
  have n14 := h.n14
  have q4 := h.1.1.2.2.1
  unfold mX8_fitting
  simp only [jp_q]
  refine foldL (L := mX8_fitting_L4 m (fun x v => some (x, v))) (w := fun x v => some (x, v)) (by omega) (fun v => QF u v ∧ IVs p v) _ ?_ ?_ ⟨QF.rf, hv⟩ 0
  · intro fu b v q hq ⟨hqa, hva⟩
    have ha' := hqa.c h
    rw [mX8_fitting_L4.eq_2, ha'.nl, if_neg (nI_ge hq (by omega))]
    simp only [jp_q, bd_q, nI_1]
    generalize hw : (fun (x111 : Int32) (u112 : HS) => (((if m < x111 then some 0 else some ((1 : Int32) <<< (nI q &&& 31)) : Option Int32).bind fun x114 => mX8_fitting_L4 m (fun x v => some (x, v)) fu (b ||| x114) (nI (q + 1)) u112) : Option (Int32 × HS))) = w
    obtain ⟨v1, ⟨q1, s1⟩, e1⟩ := foldL (L := mX8_fitting_L18 (nI q) w) (w := w) (n := pN p) (by omega) (fun v => QF u v ∧ IVs p v) (ftF p u q) (by
      intro fu b v k hk ⟨hqa, hva⟩
      have ha' := hqa.c h
      rw [mX8_fitting_L18.eq_2, ha'.hn, if_neg (nI_ge hk (by omega)), ha'.heard hk, hqa.ak]
      simp only [ob_q, bd_q, jp_q, nI_1, bI_0]
      unfold ftF
      cases c1 : akB p u k with
      | false => rw [if_pos rfl, if_neg (by simp)]; exact ⟨v, ⟨hqa, hva⟩, rfl⟩
      | true =>
        rw [if_neg (by decide)]
        obtain ⟨v1, e1, f1, s1⟩ := IV.stateOf ha' hva hk hq
        have q1 := hqa.tr (f1.qf (fun r hr => hr))
        rw [(hqa.lo (p := p) q k).2.2.2] at e1
        have hb := q1.c h
        rw [e1]
        simp only [ob_q]
        rw [show mX8_isYes (loJ p u q k) 0 = _ from cYes _ (show 0 < 3 by decide), show mX0_reply v1 0 (nI k) 0 = _ from hb.rep hk (show 0 < 3 by decide)]
        simp only [ob_q, Nat.add_zero, q1.lk2]
        refine ⟨v1, ⟨q1, s1⟩, ?_⟩
        unfold alB
        by_cases c : lkF u k 3 = 1
        · rw [if_pos c]
          cases yeS (loJ p u q k) 0 <;> simp [c, bI]
        · rw [if_neg c]
          cases yeS (loJ p u q k) 0 <;> simp [c, bI]) (by
      intro fu b v ⟨hqa, hva⟩
      rw [mX8_fitting_L18.eq_2, (hqa.c h).hn, if_pos (nI_le (Nat.le_refl _) (by omega))]) ⟨hqa, hva⟩ 0
    rw [e1, ← hw]
    refine ⟨v1, ⟨q1, s1⟩, ?_⟩
    unfold fgF fgB ftS
    by_cases c : m < (List.range (pN p)).foldl (ftF p u q) 0
    · simp [c, ob_q]
    · simp [c, ob_q]
  · intro fu b v ⟨hqa, hva⟩
    rw [mX8_fitting_L4.eq_2, (hqa.c h).nl, if_pos (nI_le (Nat.le_refl _) (by omega))]
theorem IV.fitR {p : IP} {u : HS} (h : IVc p u) (m : Int32) : ∃ u', Fr [78, 79] [41, 42] u u' ∧ mX9_fitting u m = some ((List.range (pNl p)).foldl (fgF (fgB p u m)) 0, u') := by
  have n14 := h.n14
  have q4 := h.1.1.2.2.1
  unfold mX9_fitting
  simp only [jp_q]
  refine foldL (L := mX9_fitting_L4 m (fun x v => some (x, v))) (w := fun x v => some (x, v)) (by omega) (fun v => Fr [78, 79] [41, 42] u v) _ ?_ ?_ Fr.rf 0
  · intro fu b v q hq hF
    have hqa : QF u v := hF.qf (by decide) (by decide)
    have ha' := hqa.c h
    rw [mX9_fitting_L4.eq_2, ha'.rl, if_neg (nI_ge hq (by omega))]
    simp only [jp_q, bd_q, nI_1]
    generalize hw : (fun (x111 : Int32) (u112 : HS) => (((if m < x111 then some 0 else some ((1 : Int32) <<< (nI q &&& 31)) : Option Int32).bind fun x114 => mX9_fitting_L4 m (fun x v => some (x, v)) fu (b ||| x114) (nI (q + 1)) u112) : Option (Int32 × HS))) = w
    obtain ⟨v1, f1, e1⟩ := foldL (L := mX9_fitting_L18 (nI q) w) (w := w) (n := pN p) (by omega) (fun v => Fr [78, 79] [41, 42] u v) (ftF p u q) (by
      intro fu b v k hk hF
      have hqa : QF u v := hF.qf (by decide) (by decide)
      have ha' := hqa.c h
      rw [mX9_fitting_L18.eq_2, ha'.rn, if_neg (nI_ge hk (by omega)), ha'.asked hk, hqa.ak]
      simp only [ob_q, bd_q, jp_q, nI_1, bI_0]
      unfold ftF
      cases c1 : akB p u k with
      | false => rw [if_pos rfl, if_neg (by simp), Int32.add_zero]; exact ⟨v, hF, rfl⟩
      | true =>
        rw [if_neg (by decide)]
        obtain ⟨v1, e1, f1⟩ := IV.alike ha' hk hq
        rw [hqa.al] at e1
        rw [e1]
        simp only [ob_q]
        refine ⟨v1, hF.tr f1, ?_⟩
        cases alB p u q k <;> simp [bI, Int32.add_zero]) (by
      intro fu b v hF
      have hqa : QF u v := hF.qf (by decide) (by decide)
      rw [mX9_fitting_L18.eq_2, (hqa.c h).rn, if_pos (nI_le (Nat.le_refl _) (by omega))]) hF 0
    rw [e1, ← hw]
    refine ⟨v1, f1, ?_⟩
    unfold fgF fgB ftS
    by_cases c : m < (List.range (pN p)).foldl (ftF p u q) 0
    · simp [c, ob_q]
    · simp [c, ob_q]
  · intro fu b v hF
    have hqa : QF u v := hF.qf (by decide) (by decide)
    rw [mX9_fitting_L4.eq_2, (hqa.c h).rl, if_pos (nI_le (Nat.le_refl _) (by omega))]
theorem inB_in14 (x : Int32) : mX9_in x 0 14 = some (bI (inB x 15)) := by
  rw [inr_ok]
  congr 2
  unfold inR inB
  congr 1
  rw [decide_eq_decide]
  exact Int32.le_iff_toInt_le.trans (by rw [show (nI 15 : Int32) = 15 from rfl, Int32.lt_iff_toInt_lt, show (14 : Int32).toInt = 14 from by decide, show (15 : Int32).toInt = 15 from by decide]; omega)
-- fits
set_option maxHeartbeats 2000000 in
theorem s_fits (x1 : Int32) : Step [1] (fun u => mX8_fits u x1) (fun u => mX9_fits u x1) := by
  intro u hI
  have ⟨p, h, hv⟩ := hI
  have hw := w0c h
  have n6 := h.1.1.1
  have t6 := h.1.1.2.1
  have q4 := h.1.1.2.2.1
  have n14 := h.2.2.2.2.2.1.2.1.1.1
  cases b1 : inB x1 15 with
  | false =>
    refine Step.bad hI (k := 1) (v := 0) (b := 0) (c := 1) ?_ ?_ (by decide)
    · unfold mX8_fits; simp only [bd_q, jp_q, ob_q, on_q, if_true, if_false, Bool.false_eq_true, Bool.true_eq_false, Bool.not_true, Bool.not_false, pr99, pr9, pr8, cReqS h, cReqT h, cReqQ h, cReqL h, cReqB, cReq0, cReq1, cTenthB, cAskB, cFitB, xqz, xq1, xq2, xq3, pl2, pl3, pl4, pl5, pl14, pl40, pl50, pl100, pl999, pe3, pe11, pe30, pe40, pe300, bI_if, bI_0, b1]
    · show mX9_fits u x1 = _
      unfold mX9_fits; simp only [bd_q, jp_q, ob_q, on_q, if_true, if_false, Bool.false_eq_true, Bool.true_eq_false, Bool.not_true, Bool.not_false, ir99, ir9, ir8, w0e, rIsS hw, rIsT hw, rIsQ hw, rIsL hw, rBad w00 _ (show (1 : Int32) ≠ 0 by decide), rBad w00 _ (show (2 : Int32) ≠ 0 by decide), rBad w00 _ (show (3 : Int32) ≠ 0 by decide), rBad1 w00 (show (1 : Int32) ≠ 0 by decide), rBad1 w00 (show (2 : Int32) ≠ 0 by decide), rBad1 w00 (show (3 : Int32) ≠ 0 by decide), rBad0 w00 (show (1 : Int32) ≠ 0 by decide), rBad0 w00 (show (2 : Int32) ≠ 0 by decide), rBad0 w00 (show (3 : Int32) ≠ 0 by decide), e10, in2, in3, in4, in5, in10, in14, in29, in39, in40, in50, in100, in299, in999, bI_nn, bI_0, b1]
  | true =>
  obtain ⟨m, hm, rfl⟩ := inB_t (by decide) b1
  obtain ⟨u1, ⟨q1, hv1⟩, e1⟩ := IV.fitC h hv (nI m)
  have hw1 := w0c (q1.c h)
  obtain ⟨u2, f2, e2⟩ := IV.fitR hw1 (nI m)
  have qw : QF u (w0 u1) := q1.tr QF.w0
  rw [qw.fg] at e2
  refine Step.ask h (u1 := u1) (u2 := u2) (v := (List.range (pNl p)).foldl (fgF (fgB p u (nI m))) 0) ?_ ?_ q1 hv1 (QF.w0.tr (f2.qf (by decide) (by decide))) (by rw [f2.m1 (by decide) (by decide), w054]) (by rw [f2.2.1 0 (by simp), w00])
  · unfold mX8_fits; simp only [bd_q, jp_q, ob_q, on_q, if_true, if_false, Bool.false_eq_true, Bool.true_eq_false, Bool.not_true, Bool.not_false, pr99, pr9, pr8, cReqS h, cReqT h, cReqQ h, cReqL h, cReqB, cReq0, cReq1, cTenthB, cAskB, cFitB, xqz, xq1, xq2, xq3, pl2, pl3, pl4, pl5, pl14, pl40, pl50, pl100, pl999, pe3, pe11, pe30, pe40, pe300, bI_if, bI_0, b1, e1]
  · show mX9_fits u1 (nI m) = _
    have hw := hw1
    unfold mX9_fits; simp only [bd_q, jp_q, ob_q, on_q, if_true, if_false, Bool.false_eq_true, Bool.true_eq_false, Bool.not_true, Bool.not_false, ir99, ir9, ir8, w0e, rIsS hw, rIsT hw, rIsQ hw, rIsL hw, rBad w00 _ (show (1 : Int32) ≠ 0 by decide), rBad w00 _ (show (2 : Int32) ≠ 0 by decide), rBad w00 _ (show (3 : Int32) ≠ 0 by decide), rBad1 w00 (show (1 : Int32) ≠ 0 by decide), rBad1 w00 (show (2 : Int32) ≠ 0 by decide), rBad1 w00 (show (3 : Int32) ≠ 0 by decide), rBad0 w00 (show (1 : Int32) ≠ 0 by decide), rBad0 w00 (show (2 : Int32) ≠ 0 by decide), rBad0 w00 (show (3 : Int32) ≠ 0 by decide), e10, in2, in3, in4, in5, in10, in14, in29, in39, in40, in50, in100, in299, in999, bI_nn, bI_0, b1, inB_in14, e2]
