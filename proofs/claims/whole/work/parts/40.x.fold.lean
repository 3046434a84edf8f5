/-- a loop up from 0 that keeps P and folds F -/
theorem foldL {α β : Type} {L : Nat → α → Int32 → HS → β} {w : α → HS → β} {n : Nat} (hn : n < 4000) (P : HS → Prop) (F : α → Nat → α)
    (hs : ∀ fu a v k, k < n → P v → ∃ v', P v' ∧ L (fu + 1) a (nI k) v = L fu (F a k) (nI (k + 1)) v')
    (he : ∀ fu a v, P v → L (fu + 1) a (nI n) v = w a v) {u : HS} (hu : P u) (a0 : α) : ∃ u', P u' ∧ L FU a0 0 u = w ((List.range n).foldl F a0) u' := by
  refine loopR (fun fu (a : α × HS) y => L fu a.1 y a.2) n 0 (fun k a => a.1 = (List.range k).foldl F a0 ∧ P a.2) (fun o => ∃ u', P u' ∧ o = w ((List.range n).foldl F a0) u') ?_ ?_ n 0 (a0, u) FU (Nat.le_refl _) (by omega) (FU_lt (by omega)) ⟨rfl, hu⟩
  · intro fu ⟨a, v⟩ k _ hk ⟨ha, hv⟩ ih
    obtain ⟨v', hv', e⟩ := hs fu a v k hk hv
    show ∃ u', P u' ∧ L (fu + 1) a (nI k) v = _
    rw [e]
    exact ih (F a k, v') ⟨by rw [rsucc]; show F a k = F _ k; rw [show a = _ from ha], hv'⟩
  · intro fu ⟨a, v⟩ ⟨ha, hv⟩
    show ∃ u', P u' ∧ L (fu + 1) a (nI n) v = _
    rw [he fu a v hv, show a = _ from ha]
    exact ⟨v, hv, rfl⟩
theorem IVc.hn {p : IP} {u : HS} (h : IVc p u) : gI u 0 0 0 = nI (pN p) := h.2.2.2.2.2.1.2.1.1.2.1
theorem IVc.rn {p : IP} {u : HS} (h : IVc p u) : gI u 9 0 28 = nI (pN p) := h.2.2.2.2.2.1.1.1
theorem IVc.n14 {p : IP} {u : HS} (h : IVc p u) : pN p ≤ 14 := h.2.2.2.2.2.1.2.1.1.1
theorem IVc.row {p : IP} {u : HS} (h : IVc p u) {l : Nat} (hl : l < pN p) : gI u 20 0 l = lkF u l 0 ∧ gI u 21 0 l = lkF u l 1 ∧ ((gI u 0 0 3 >>> (nI l &&& 31)) &&& 1) = lkF u l 2 ∧ (∀ a, a < 3 → gI u 22 0 (3 * l + a) = lkF u l (3 + a)) ∧ gI u 23 0 l = lkF u l 6 ∧ gI u 24 0 l = lkF u l 7 := h.2.2.2.2.2.1.2.1.1.2.2 l hl
theorem IVc.vl {p : IP} {u : HS} (h : IVc p u) : VL (pNs p) (pNt p) (pN p) (lkF u) := h.2.2.2.2.2.1.2.2.1
theorem IVc.kno {p : IP} {u : HS} (h : IVc p u) {l : Nat} (hl : l < pN p) : mX0_isKnowing u 0 (nI l) = some (bI (decide (lkF u l 2 ≠ 0))) := by
  unfold mX0_isKnowing
  rw [(h.row hl).2.2.1]
  by_cases c : lkF u l 2 = 0 <;> simp [c, bI]
theorem IVc.rep {p : IP} {u : HS} (h : IVc p u) {l a : Nat} (hl : l < pN p) (ha : a < 3) : mX0_reply u 0 (nI l) (nI a) = some (lkF u l (3 + a)) := by
  have n14 := h.n14
  unfold mX0_reply
  rw [show (nI l * 3 + nI a : Int32) = nI (3 * l + a) from by rw [show (nI l * 3 : Int32) = nI (l * 3) from pk_mul l 3, nI_add, Nat.mul_comm], ck_nI (show 3 * l + a < 42 by omega) (by decide)]
  simp only [ob_q]
  rw [(h.row hl).2.2.2.1 a ha]
theorem QF.lk2 {u v : HS} (hF : QF u v) : lkF v = lkF u := hF.2.1
/-- does a looker's guess count among those that know -/
def knB (p : IP) (u : HS) (q a l : Nat) : Bool := decide (lkF u l 2 ≠ 0) && (decide (a = 0) || yeS (loJ p u q l) 0) && (decide (a < 2) || decide (chJ p u q l = -1))
def knF (p : IP) (u : HS) (q a : Nat) (b : Int32) (l : Nat) : Int32 := if knB p u q a l = true then b + 1 else b
theorem IV.knowC {p : IP} {u : HS} (h : IVc p u) (hv : IVs p u) {q a : Nat} (hq : q < pNl p) (ha : a < 3) : ∃ u', (QF u u' ∧ IVs p u') ∧ mX8_knowing_L27 (nI a) (nI q) (fun x v => some (0, x, v)) FU 0 0 u = some (0, (List.range (pN p)).foldl (knF p u q a) 0, u') := by
  have n14 := h.n14
  refine foldL (L := mX8_knowing_L27 (nI a) (nI q) (fun x v => some (0, x, v))) (w := fun x v => some (0, x, v)) (by omega) (fun v => QF u v ∧ IVs p v) (knF p u q a) ?_ ?_ ⟨QF.rf, hv⟩ 0
  · intro fu b v k hk ⟨hqa, hva⟩
    have ha' := hqa.c h
    rw [mX8_knowing_L27.eq_2, ha'.hn, if_neg (nI_ge hk (by omega)), ha'.kno hk, hqa.lk2]
    simp only [ob_q, bd_q, jp_q, nI_1, bI_0]
    unfold knF knB
    by_cases c1 : lkF u k 2 = 0
    · rw [if_pos (by simp [c1]), if_neg (by simp [c1])]
      exact ⟨v, ⟨hqa, hva⟩, rfl⟩
    · rw [if_neg (by simp [c1])]
      have hch : ∀ x v1, QF u v1 → IVs p v1 → (decide (a = 0) || yeS (loJ p u q k) 0) = true → ∃ v', (QF u v' ∧ IVs p v') ∧ (if nI a < 2 then mX8_knowing_L27 (nI a) (nI q) (fun x v => some (0, x, v)) fu (x + 1) (nI (k + 1)) v1 else (mX8_changeSeen v1 (nI q) (nI k)).bind fun z125 => if z125.1 = -1 then mX8_knowing_L27 (nI a) (nI q) (fun x v => some (0, x, v)) fu (x + 1) (nI (k + 1)) z125.2 else mX8_knowing_L27 (nI a) (nI q) (fun x v => some (0, x, v)) fu x (nI (k + 1)) z125.2) = mX8_knowing_L27 (nI a) (nI q) (fun x v => some (0, x, v)) fu (if (decide (lkF u k 2 ≠ 0) && (decide (a = 0) || yeS (loJ p u q k) 0) && (decide (a < 2) || decide (chJ p u q k = -1))) = true then x + 1 else x) (nI (k + 1)) v' := by
        intro x v1 q1 s1 hyes
        by_cases c2 : a < 2
        · rw [if_pos (show nI a < 2 from nI_lt (b := 2) (by omega) (by omega)), if_pos (by rw [hyes]; simp [c1, c2])]
          exact ⟨v1, ⟨q1, s1⟩, rfl⟩
        · rw [if_neg (show ¬ nI a < 2 from nI_nlt (b := 2) (by omega) (by omega))]
          obtain ⟨v2, e2, q2, s2⟩ := IV.chSeen (q1.c h) s1 hk hq
          rw [q1.ch] at e2
          rw [e2]
          simp only [ob_q]
          refine ⟨v2, ⟨q1.tr q2, s2⟩, ?_⟩
          by_cases c3 : chJ p u q k = -1
          · rw [if_pos c3, if_pos (by rw [hyes]; simp [c1, c3])]
          · rw [if_neg c3, if_neg (by simp [c2, c3])]
      by_cases c2 : a = 0
      · rw [if_pos (show nI a = 0 by rw [c2]; rfl)]
        exact hch b v hqa hva (by simp [c2])
      · rw [if_neg (show ¬ nI a = 0 from fun y => c2 ((nI_eq (b := 0) (by omega) (by decide)).mp y))]
        obtain ⟨v1, e1, f1, s1⟩ := IV.stateOf ha' hva hk hq
        have q1 := f1.qf (fun r hr => hr)
        rw [(hqa.lo (p := p) q k).2.2.2] at e1
        rw [e1]
        simp only [ob_q]
        rw [show mX8_isYes (loJ p u q k) 0 = _ from cYes _ (show 0 < 3 by decide)]
        simp only [ob_q]
        cases c3 : yeS (loJ p u q k) 0 with
        | false =>
          rw [if_pos (show bI false = 0 from rfl), if_neg (by simp [c2])]
          exact ⟨v1, ⟨hqa.tr q1, s1⟩, rfl⟩
        | true =>
          rw [if_neg (by decide)]
          have := hch b v1 (hqa.tr q1) s1 (by rw [c3]; simp)
          rw [c3] at this
          exact this
  · intro fu b v ⟨hqa, hva⟩
    rw [mX8_knowing_L27.eq_2, (hqa.c h).hn, if_pos (nI_le (Nat.le_refl _) (by omega))]
theorem IV.knowR {p : IP} {u : HS} (h : IVc p u) {q a : Nat} (hq : q < pNl p) (ha : a < 3) : ∃ u', Fr [78, 79] [41, 42] u u' ∧ mX9_knowing_L55 (nI a) (nI q) (fun x v => some (x, v)) FU 0 0 u = some ((List.range (pN p)).foldl (knF p u q a) 0, u') := by
  have n14 := h.n14
  refine foldL (L := mX9_knowing_L55 (nI a) (nI q) (fun x v => some (x, v))) (w := fun x v => some (x, v)) (by omega) (fun v => Fr [78, 79] [41, 42] u v) (knF p u q a) ?_ ?_ Fr.rf 0
  · intro fu b v k hk hF
    have hqa : QF u v := hF.qf (by decide) (by decide)
    have ha' := hqa.c h
    obtain ⟨l14, ls, lt, -, -, -, -, lf⟩ := ha'.lk hk
    rw [mX9_knowing_L55.eq_2, ha'.rn, if_neg (nI_ge hk (by omega)), ck_nI (show k < 15 by omega) (by decide), show ck 8 2 = some 2 from by decide]
    simp only [ob_q, bd_q, jp_q, nI_1, lf, hqa.lk2]
    unfold knF knB
    by_cases c1 : lkF u k 2 = 0
    · rw [if_pos c1, if_neg (by simp [c1])]
      exact ⟨v, hF, rfl⟩
    · rw [if_neg c1]
      have hch : ∀ x v1, Fr [78, 79] [41, 42] u v1 → (decide (a = 0) || yeS (loJ p u q k) 0) = true → ∃ v', Fr [78, 79] [41, 42] u v' ∧ (if nI a < 2 then mX9_knowing_L55 (nI a) (nI q) (fun x v => some (x, v)) fu (x + 1) (nI (k + 1)) v1 else (mX9_changeOf v1 (nI q) (nI k)).bind fun z125 => if z125.1 = -1 then mX9_knowing_L55 (nI a) (nI q) (fun x v => some (x, v)) fu (x + 1) (nI (k + 1)) z125.2 else mX9_knowing_L55 (nI a) (nI q) (fun x v => some (x, v)) fu (x + 0) (nI (k + 1)) z125.2) = mX9_knowing_L55 (nI a) (nI q) (fun x v => some (x, v)) fu (if (decide (lkF u k 2 ≠ 0) && (decide (a = 0) || yeS (loJ p u q k) 0) && (decide (a < 2) || decide (chJ p u q k = -1))) = true then x + 1 else x) (nI (k + 1)) v' := by
        intro x v1 q1 hyes
        by_cases c2 : a < 2
        · rw [if_pos (show nI a < 2 from nI_lt (b := 2) (by omega) (by omega)), if_pos (by rw [hyes]; simp [c1, c2])]
          exact ⟨v1, q1, rfl⟩
        · rw [if_neg (show ¬ nI a < 2 from nI_nlt (b := 2) (by omega) (by omega))]
          have q1' : QF u v1 := q1.qf (by decide) (by decide)
          obtain ⟨v2, e2, q2⟩ := IV.chOf (q1'.c h) hk hq
          rw [q1'.ch] at e2
          rw [e2]
          simp only [ob_q]
          refine ⟨v2, q1.tr q2, ?_⟩
          by_cases c3 : chJ p u q k = -1
          · rw [if_pos c3, if_pos (by rw [hyes]; simp [c1, c3])]
          · rw [if_neg c3, if_neg (by simp [c2, c3]), Int32.add_zero]
      by_cases c2 : a = 0
      · rw [if_pos (show nI a ≤ 0 by rw [c2]; decide)]
        exact hch b v hF (by simp [c2])
      · rw [if_neg (show ¬ nI a ≤ 0 from nI_nle (by omega) (by omega))]
        obtain ⟨v1, e1, f1⟩ := IV.says ha' hk hq (show 0 < 3 by decide)
        rw [(hqa.lo (p := p) q k).2.2.2] at e1
        rw [show (mX9_saysBy v (nI q) (nI k) 0) = some _ from e1]
        simp only [ob_q]
        cases c3 : yeS (loJ p u q k) 0 with
        | false =>
          rw [if_pos (show bI false = 0 from rfl), if_neg (by simp [c2])]
          exact ⟨v1, hF.tr f1, rfl⟩
        | true =>
          rw [if_neg (by decide)]
          have := hch b v1 (hF.tr f1) (by rw [c3]; simp)
          rw [c3] at this
          exact this
  · intro fu b v hF
    have hqa : QF u v := hF.qf (by decide) (by decide)
    rw [mX9_knowing_L55.eq_2, (hqa.c h).rn, if_pos (nI_le (Nat.le_refl _) (by omega))]
theorem QF.kn {p : IP} {u v : HS} (hF : QF u v) (q a : Nat) : knF p v q a = knF p u q a := by
  funext b l
  have h := hF.lo (p := p) q l
  unfold knF knB
  rw [h.2.2.2, hF.ch, hF.lk2]
theorem inB_in02 (x : Int32) : mX9_in x 0 2 = some (bI (inB x 3)) := by
  rw [inr_ok]
  congr 2
  unfold inR inB
  congr 1
  rw [decide_eq_decide]
  exact Int32.le_iff_toInt_le.trans (by rw [show (nI 3 : Int32) = 3 from rfl, Int32.lt_iff_toInt_lt, show (2 : Int32).toInt = 2 from by decide, show (3 : Int32).toInt = 3 from by decide]; omega)
theorem kn02 {α : Type} (x : Int32) (J K : α) : (if x < 0 then J else if (2 : Int32) < x then J else K) = if inB x 3 = true then K else J := by
  have h := inB_in02 x
  unfold mX9_in at h
  by_cases c1 : x < 0
  · rw [if_pos c1] at h; rw [if_pos c1]
    cases c : inB x 3 with
    | false => simp
    | true => rw [c] at h; cases h
  · rw [if_neg c1] at h; rw [if_neg c1]
    by_cases c2 : (2 : Int32) < x
    · rw [if_pos c2] at h; rw [if_pos c2]
      cases c : inB x 3 with
      | false => simp
      | true => rw [c] at h; cases h
    · rw [if_neg c2] at h; rw [if_neg c2]
      cases c : inB x 3 with
      | true => simp
      | false => rw [c] at h; cases h
-- knowing
set_option maxHeartbeats 2000000 in
theorem s_knowing (x1 x2 : Int32) : Step [3, 1] (fun u => mX8_knowing u x1 x2) (fun u => mX9_knowing u x1 x2) := by
  intro u hI
  have ⟨p, h, hv⟩ := hI
  have hw := w0c h
  have n6 := h.1.1.1
  have t6 := h.1.1.2.1
  have q4 := h.1.1.2.2.1
  have n14 := h.2.2.2.2.2.1.2.1.1.1
  cases b1 : inB x1 (pNl p) with
  | false =>
    refine Step.bad hI (k := 3) (v := 0) (b := 0) (c := 1) ?_ ?_ (by decide)
    · unfold mX8_knowing; simp only [bd_q, jp_q, ob_q, on_q, if_true, if_false, Bool.false_eq_true, Bool.true_eq_false, Bool.not_true, Bool.not_false, pr99, pr9, pr8, cReqS h, cReqT h, cReqQ h, cReqL h, cReqB, cReq0, cReq1, cTenthB, cAskB, cFitB, xqz, xq1, xq2, xq3, pl2, pl3, pl4, pl5, pl14, pl40, pl50, pl100, pl999, pe3, pe11, pe30, pe40, pe300, bI_if, bI_0, b1]
    · show mX9_knowing u x1 x2 = _
      unfold mX9_knowing; simp only [bd_q, jp_q, ob_q, on_q, if_true, if_false, Bool.false_eq_true, Bool.true_eq_false, Bool.not_true, Bool.not_false, ir99, ir9, ir8, w0e, rIsS hw, rIsT hw, rIsQ hw, rIsL hw, rBad w00 _ (show (1 : Int32) ≠ 0 by decide), rBad w00 _ (show (2 : Int32) ≠ 0 by decide), rBad w00 _ (show (3 : Int32) ≠ 0 by decide), rBad1 w00 (show (1 : Int32) ≠ 0 by decide), rBad1 w00 (show (2 : Int32) ≠ 0 by decide), rBad1 w00 (show (3 : Int32) ≠ 0 by decide), rBad0 w00 (show (1 : Int32) ≠ 0 by decide), rBad0 w00 (show (2 : Int32) ≠ 0 by decide), rBad0 w00 (show (3 : Int32) ≠ 0 by decide), e10, in2, in3, in4, in5, in10, in14, in29, in39, in40, in50, in100, in299, in999, bI_nn, bI_0, b1]
  | true =>
  obtain ⟨q, hq, rfl⟩ := inB_t (by omega) b1
  obtain ⟨lr, lc, lw⟩ := h.law hq
  cases b2 : inB x2 3 with
  | false =>
    refine Step.bad hI (k := 1) (v := 0) (b := 0) (c := 2) ?_ ?_ (by decide)
    · unfold mX8_knowing; simp only [bd_q, jp_q, ob_q, on_q, if_true, if_false, Bool.false_eq_true, Bool.true_eq_false, Bool.not_true, Bool.not_false, pr99, pr9, pr8, cReqS h, cReqT h, cReqQ h, cReqL h, cReqB, cReq0, cReq1, cTenthB, cAskB, cFitB, xqz, xq1, xq2, xq3, pl2, pl3, pl4, pl5, pl14, pl40, pl50, pl100, pl999, pe3, pe11, pe30, pe40, pe300, bI_if, bI_0, b1, b2]
    · show mX9_knowing u (nI q) x2 = _
      unfold mX9_knowing; simp only [bd_q, jp_q, ob_q, on_q, if_true, if_false, Bool.false_eq_true, Bool.true_eq_false, Bool.not_true, Bool.not_false, ir99, ir9, ir8, w0e, rIsS hw, rIsT hw, rIsQ hw, rIsL hw, rBad w00 _ (show (1 : Int32) ≠ 0 by decide), rBad w00 _ (show (2 : Int32) ≠ 0 by decide), rBad w00 _ (show (3 : Int32) ≠ 0 by decide), rBad1 w00 (show (1 : Int32) ≠ 0 by decide), rBad1 w00 (show (2 : Int32) ≠ 0 by decide), rBad1 w00 (show (3 : Int32) ≠ 0 by decide), rBad0 w00 (show (1 : Int32) ≠ 0 by decide), rBad0 w00 (show (2 : Int32) ≠ 0 by decide), rBad0 w00 (show (3 : Int32) ≠ 0 by decide), e10, in2, in3, in4, in5, in10, in14, in29, in39, in40, in50, in100, in299, in999, bI_nn, bI_0, b1, b2]
  | true =>
  obtain ⟨a, ha, rfl⟩ := inB_t (by decide) b2
  obtain ⟨u1, ⟨q1, hv1⟩, e1⟩ := IV.knowC h hv hq ha
  have hw1 := w0c (q1.c h)
  obtain ⟨u2, f2, e2⟩ := IV.knowR hw1 hq ha
  have qw : QF u (w0 u1) := q1.tr QF.w0
  rw [qw.kn] at e2
  refine Step.ask h (u1 := u1) (u2 := u2) (v := (List.range (pN p)).foldl (knF p u q a) 0) ?_ ?_ q1 hv1 (QF.w0.tr (f2.qf (by decide) (by decide))) (by rw [f2.m1 (by decide) (by decide), w054]) (by rw [f2.2.1 0 (by simp), w00])
  · unfold mX8_knowing; simp only [bd_q, jp_q, ob_q, on_q, if_true, if_false, Bool.false_eq_true, Bool.true_eq_false, Bool.not_true, Bool.not_false, pr99, pr9, pr8, cReqS h, cReqT h, cReqQ h, cReqL h, cReqB, cReq0, cReq1, cTenthB, cAskB, cFitB, xqz, xq1, xq2, xq3, pl2, pl3, pl4, pl5, pl14, pl40, pl50, pl100, pl999, pe3, pe11, pe30, pe40, pe300, bI_if, bI_0, b1, b2, kn02, e1]
  · show mX9_knowing u1 (nI q) (nI a) = _
    have hw := hw1
    unfold mX9_knowing; simp only [bd_q, jp_q, ob_q, on_q, if_true, if_false, Bool.false_eq_true, Bool.true_eq_false, Bool.not_true, Bool.not_false, ir99, ir9, ir8, w0e, rIsS hw, rIsT hw, rIsQ hw, rIsL hw, rBad w00 _ (show (1 : Int32) ≠ 0 by decide), rBad w00 _ (show (2 : Int32) ≠ 0 by decide), rBad w00 _ (show (3 : Int32) ≠ 0 by decide), rBad1 w00 (show (1 : Int32) ≠ 0 by decide), rBad1 w00 (show (2 : Int32) ≠ 0 by decide), rBad1 w00 (show (3 : Int32) ≠ 0 by decide), rBad0 w00 (show (1 : Int32) ≠ 0 by decide), rBad0 w00 (show (2 : Int32) ≠ 0 by decide), rBad0 w00 (show (3 : Int32) ≠ 0 by decide), e10, in2, in3, in4, in5, in10, in14, in29, in39, in40, in50, in100, in299, in999, bI_nn, bI_0, b1, b2, inB_in02, e2]
