/-! a looker that is new -/
theorem eyS_new {ey bl : Nat → Nat → Int32} {nr nb : Nat} {c : SV} (hv : VE nr ey) (hb : VB nb bl) (x τ : Int32) : eyS ey nr bl nb (nI 14) c x τ = thrE c x τ := by
  have h1 : shutS bl nb (nI 14) τ = false := by
    unfold shutS
    rw [List.any_eq_false]
    intro k hk
    obtain ⟨⟨l, hl, e⟩, -⟩ := hb k (List.mem_range.mp hk)
    rw [e, decide_eq_false (show ¬ nI l = nI 14 from fun y => by have := (nI_eq (a := l) (b := 14) (by omega) (by decide)).mp y; omega)]
    simp
  have h2 : eyeO ey nr (nI 14) τ = none := by
    unfold eyeO
    have : ∀ k, k ≤ nr → (List.range k).foldl (latP (fun k => ey k 1) (fun k => decide (ey k 0 = nI 14)) τ) none = none := by
      intro k
      induction k with
      | zero => exact fun _ => rfl
      | succ k ih =>
        intro hk
        obtain ⟨⟨l, hl, e⟩, -⟩ := hv k (by omega)
        rw [rsucc, ih (by omega)]
        unfold latP
        have hd : decide (ey k 0 = nI 14) = false := decide_eq_false (by rw [e]; exact fun y => by have := (nI_eq (a := l) (b := 14) (by omega) (by decide)).mp y; omega)
        simp only [hd, Bool.false_and, Bool.false_eq_true, if_false]
    exact this nr (Nat.le_refl _)
  unfold eyS lookS
  rw [h1, h2]
  rfl
theorem IV.comes {p : IP} {u : HS} (h : IVc p u) {s t : Nat} (hs : s < pNs p) (ht : t < pNt p) : ∃ u', mX9_comes u 14 (nI s) (nI t) 0 = some u' ∧ (Fr [81] [] u u' ∧ lkF u' = lkF u) ∧ LY u' 14 (pC p s) (pT p t) 0 (thrE (pC p s) (pT p t 2)) := by
  have t6 := h.1.1.2.1
  have k14 : ck 15 14 = some 14 := by decide
  unfold mX9_comes
  simp only [k14, c8_0, show ck 8 1 = some 1 from by decide, show ck 8 2 = some 2 from by decide, ob_q, bd_q, jp_q, if_true]
  have hl : ∃ u', (Fr [81] [] u u' ∧ lkF u' = lkF u ∧ gI u' 81 14 0 = nI s ∧ gI u' 81 14 1 = nI t ∧ gI u' 81 14 2 = 0) ∧ mX9_comes_L39 14 (fun u114 => some u114) FU 3 (wI (wI (wI u 81 14 0 (nI s)) 81 14 1 (nI t)) 81 14 2 0) = some u' := by
    refine loopR (fun fu (a : HS) y => mX9_comes_L39 14 (fun u114 => some u114) fu y a) 8 3 (fun k a => Fr [81] [] u a ∧ lkF a = lkF u ∧ gI a 81 14 0 = nI s ∧ gI a 81 14 1 = nI t ∧ gI a 81 14 2 = 0) (fun o => ∃ u', (Fr [81] [] u u' ∧ lkF u' = lkF u ∧ gI u' 81 14 0 = nI s ∧ gI u' 81 14 1 = nI t ∧ gI u' 81 14 2 = 0) ∧ o = some u') ?_ ?_ 5 3 _ FU (by omega) rfl (FU_lt (by omega)) ?_
    · intro fu a k h3 hk ⟨a1, a2, a3, a4, a5⟩ ih
      show ∃ u', _ ∧ mX9_comes_L39 14 (fun u114 => some u114) (fu + 1) (nI k) a = _
      rw [mX9_comes_L39.eq_2, if_neg (show ¬ (8 : Int32) ≤ nI k from nI_ge (b := 8) hk (by decide)), k14, ck_nI (show k < 8 by omega) (by decide)]
      simp only [ob_q, bd_q, nI_1]
      refine ih _ ⟨a1.sI (by decide) (by decide), ?_, ?_, ?_, ?_⟩
      · rw [← a2]; funext l j; unfold lkF
        by_cases c : l < 14
        · rw [if_pos c, if_pos c, gI_ri (by omega)]
        · rw [if_neg c, if_neg c]
      · rw [gI_k (by omega)]; exact a3
      · rw [gI_k (by omega)]; exact a4
      · rw [gI_k (by omega)]; exact a5
    · intro fu a ha
      show ∃ u', _ ∧ mX9_comes_L39 14 (fun u114 => some u114) (fu + 1) (nI 8) a = _
      rw [mX9_comes_L39.eq_2, if_pos (show (8 : Int32) ≤ nI 8 by decide)]
      exact ⟨a, ha, rfl⟩
    · refine ⟨((Fr.rf.sI (by decide) (by decide)).sI (by decide) (by decide)).sI (by decide) (by decide), ?_, ?_, ?_, ?_⟩
      · funext l j; unfold lkF
        by_cases c : l < 14
        · rw [if_pos c, if_pos c, gI_ri (by omega), gI_ri (by omega), gI_ri (by omega)]
        · rw [if_neg c, if_neg c]
      · rw [gI_k (by decide), gI_k (by decide), gI_eq]
      · rw [gI_k (by decide), gI_eq]
      · rw [gI_eq]
  obtain ⟨u', ⟨f, g, g0, g1, g2⟩, e⟩ := hl
  obtain ⟨-, -, hS, hT, -, ⟨⟨a1, a2, a3⟩, ⟨b1, b2, b3, -⟩, c1, c2, c3, -⟩, -⟩ := h
  obtain ⟨s1, s2⟩ := hS _ hs
  have e83 : gI u' 83 = gI u 83 := f.m1 (by decide) (by decide)
  have e85 : gI u' 85 = gI u 85 := f.m1 (by decide) (by decide)
  refine ⟨u', e, ⟨f, g⟩, ⟨s, t, pNr p, pNb p, ⟨s1.fr (f.m1 (by decide) (by decide)) (f.m1 (by decide) (by decide)) (f.m1 (by decide) (by decide)) (f.m1 (by decide) (by decide)), s2.1.2.1, by decide, by omega, b2.1, b3.1⟩, g0, g1, g2, fun j => by rw [f.m1 (show 71 ∉ [81] by decide) (by decide)]; exact (hT _ ht).1 j, by rw [f.2.1 29 (by simp)]; exact a2, by rw [f.2.1 30 (by simp)]; exact a3, fun τ => by rw [e83, e85]; exact (eyS_new c2 c3 _ τ).symm⟩, pNb p, by rw [f.2.1 30 (by simp)]; exact a3, b3.1, fun τ hτ => ?_⟩
  rw [e85, ← eyS_new c2 c3 (pT p t 2) (nI τ)]
  exact eyS_sh s2.1.2.1 c2 _ hτ
theorem Fr.qf81 {u v : HS} (h : Fr [81] [] u v) (hl : lkF v = lkF u) : QF u v :=
  ⟨fun r a b => h.1 r (fun q => a (by simp only [List.mem_cons, List.not_mem_nil, or_false] at q ⊢; omega)) b, hl, fun k _ => h.2.1 k (by simp), fun k _ _ => by rw [h.2.2.2]⟩
theorem IV.saysNew {p : IP} {u : HS} (h : IVc p u) {s t q a : Nat} (hs : s < pNs p) (hq : q < pNl p) (ha : a < 3) (hy : LY u 14 (pC p s) (pT p t) 0 (thrE (pC p s) (pT p t 2))) : ∃ u', mX9_saysBy u (nI q) 14 (nI a) = some (bI (yeS (neJ p q s t) a), u') ∧ Fr [78, 79] [41, 42] u u' := by
  obtain ⟨lr, lc, lw⟩ := h.2.2.2.2.1 q hq
  obtain ⟨m1, m2, m3⟩ := h.2.2.2.2.2.2.2
  exact rSays hy (h.2.2.1 _ hs).2.1.2.1 lr lw m1 m2 m3 ha
/-! bits of laws -/
theorem fg_bit (f : Nat → Bool) {n q : Nat} (hn : n ≤ 4) (hq : q < n) : (((List.range n).foldl (fgF f) 0) >>> (nI q &&& 31)) &&& 1 = bI (f q) := by
  have key : ∀ f0 f1 f2 f3 : Bool, ∀ n ≤ 4, ∀ q < n, (((List.range n).foldl (fgF (fun j => match j with | 0 => f0 | 1 => f1 | 2 => f2 | _ => f3)) 0) >>> (nI q &&& 31)) &&& 1 = bI ((fun j => match j with | 0 => f0 | 1 => f1 | 2 => f2 | _ => f3) q) := by decide
  have h1 : (List.range n).foldl (fgF f) 0 = (List.range n).foldl (fgF (fun j => match j with | 0 => f 0 | 1 => f 1 | 2 => f 2 | _ => f 3)) 0 := by
    match n, hn with
    | 0, _ => rfl
    | 1, _ => rfl
    | 2, _ => rfl
    | 3, _ => rfl
    | 4, _ => rfl
  rw [h1, key (f 0) (f 1) (f 2) (f 3) n hn q hq]
  match q, (show q < 4 by omega) with
  | 0, _ => rfl
  | 1, _ => rfl
  | 2, _ => rfl
  | 3, _ => rfl
def crF (f y : Nat → Bool) (b : Int32) (q : Nat) : Int32 := if f q = true then b ||| (if y q = true then 2 else 1) else b
def crG (f y : Nat → Bool) (b : Int32 × Int32) (q : Nat) : Int32 × Int32 := if f q = true then (if y q = true then (b.1 + 1, b.2) else (b.1, b.2 + 1)) else b
def crH (x : Int32) (b : Int32 × Int32) : Int32 := if x = 0 then 0 else if b.1 = 0 then 1 else if b.2 = 0 then 2 else 3
theorem cr_eq (f y : Nat → Bool) {n : Nat} (hn : n ≤ 4) : crH ((List.range n).foldl (fgF f) 0) ((List.range n).foldl (crG f y) (0, 0)) = (List.range n).foldl (crF f y) 0 := by
  match n, hn with
  | 0, _ => rfl
  | 1, _ =>
    have key : ∀ f0 y0 : Bool, crH ((List.range 1).foldl (fgF (fun _ => f0)) 0) ((List.range 1).foldl (crG (fun _ => f0) (fun _ => y0)) (0, 0)) = (List.range 1).foldl (crF (fun _ => f0) (fun _ => y0)) 0 := by decide
    exact key (f 0) (y 0)
  | 2, _ =>
    have key : ∀ f0 y0 f1 y1 : Bool, crH ((List.range 2).foldl (fgF (fun j => match j with | 0 => f0 | _ => f1)) 0) ((List.range 2).foldl (crG (fun j => match j with | 0 => f0 | _ => f1) (fun j => match j with | 0 => y0 | _ => y1)) (0, 0)) = (List.range 2).foldl (crF (fun j => match j with | 0 => f0 | _ => f1) (fun j => match j with | 0 => y0 | _ => y1)) 0 := by decide
    exact key (f 0) (y 0) (f 1) (y 1)
  | 3, _ =>
    have key : ∀ f0 y0 f1 y1 f2 y2 : Bool, crH ((List.range 3).foldl (fgF (fun j => match j with | 0 => f0 | 1 => f1 | _ => f2)) 0) ((List.range 3).foldl (crG (fun j => match j with | 0 => f0 | 1 => f1 | _ => f2) (fun j => match j with | 0 => y0 | 1 => y1 | _ => y2)) (0, 0)) = (List.range 3).foldl (crF (fun j => match j with | 0 => f0 | 1 => f1 | _ => f2) (fun j => match j with | 0 => y0 | 1 => y1 | _ => y2)) 0 := by decide
    exact key (f 0) (y 0) (f 1) (y 1) (f 2) (y 2)
  | 4, _ =>
    have key : ∀ f0 y0 f1 y1 f2 y2 f3 y3 : Bool, crH ((List.range 4).foldl (fgF (fun j => match j with | 0 => f0 | 1 => f1 | 2 => f2 | _ => f3)) 0) ((List.range 4).foldl (crG (fun j => match j with | 0 => f0 | 1 => f1 | 2 => f2 | _ => f3) (fun j => match j with | 0 => y0 | 1 => y1 | 2 => y2 | _ => y3)) (0, 0)) = (List.range 4).foldl (crF (fun j => match j with | 0 => f0 | 1 => f1 | 2 => f2 | _ => f3) (fun j => match j with | 0 => y0 | 1 => y1 | 2 => y2 | _ => y3)) 0 := by decide
    exact key (f 0) (y 0) (f 1) (y 1) (f 2) (y 2) (f 3) (y 3)
theorem IV.crossC {p : IP} {u : HS} (h : IVc p u) (hv : IVs p u) {s t a : Nat} (hs : s < pNs p) (ht : t < pNt p) (ha : a < 3) (f : Nat → Bool) : ∃ u', (QF u u' ∧ IVs p u') ∧ mX8_crossing_L47 ((List.range (pNl p)).foldl (fgF f) 0) (nI s) (nI t) (nI a) (fun x v => some (0, x, v)) FU 0 0 u = some (0, (List.range (pNl p)).foldl (crF f (fun q => yeS (neJ p q s t) a)) 0, u') := by
  have q4 := h.1.1.2.2.1
  refine foldL (L := mX8_crossing_L47 ((List.range (pNl p)).foldl (fgF f) 0) (nI s) (nI t) (nI a) (fun x v => some (0, x, v))) (w := fun x v => some (0, x, v)) (by omega) (fun v => QF u v ∧ IVs p v) _ ?_ ?_ ⟨QF.rf, hv⟩ 0
  · intro fu b v q hq ⟨hqa, hva⟩
    have ha' := hqa.c h
    rw [mX8_crossing_L47.eq_2, ha'.nl, if_neg (nI_ge hq (by omega)), fg_bit f q4 hq]
    simp only [bd_q, jp_q, nI_1, bI_0]
    unfold crF
    cases c : f q with
    | false => rw [if_pos rfl, if_neg (by decide)]; exact ⟨v, ⟨hqa, hva⟩, rfl⟩
    | true =>
      rw [if_neg (by decide), if_pos rfl]
      obtain ⟨v1, e1, f1, s1⟩ := IV.stateNew ha' hva hs ht hq
      rw [e1]
      simp only [ob_q, cYes _ ha]
      refine ⟨v1, ⟨hqa.tr (f1.qf (fun r hr => hr)), s1⟩, ?_⟩
      by_cases cy : yeS (neJ p q s t) a = true
      · rw [if_neg (show ¬ bI (yeS (neJ p q s t) a) = 0 by rw [cy]; decide), if_pos cy, ob_q]
      · rw [if_pos (show bI (yeS (neJ p q s t) a) = 0 by rw [eq_false_of_ne_true cy]; rfl), if_neg cy, ob_q]
  · intro fu b v ⟨hqa, hva⟩
    rw [mX8_crossing_L47.eq_2, (hqa.c h).nl, if_pos (nI_le (Nat.le_refl _) (by omega))]
theorem IV.crossR {p : IP} {u : HS} (h : IVc p u) {s t a : Nat} (hs : s < pNs p) (ha : a < 3) (hy : LY u 14 (pC p s) (pT p t) 0 (thrE (pC p s) (pT p t 2))) (f : Nat → Bool) {w : Int32 → Int32 → HS → Option (Int32 × HS)} : ∃ u', Fr [78, 79] [41, 42] u u' ∧ mX9_crossing_L108 ((List.range (pNl p)).foldl (fgF f) 0) (nI a) w FU 0 0 0 u = w ((List.range (pNl p)).foldl (crG f (fun q => yeS (neJ p q s t) a)) (0, 0)).1 ((List.range (pNl p)).foldl (crG f (fun q => yeS (neJ p q s t) a)) (0, 0)).2 u' := by
  have q4 := h.1.1.2.2.1
  refine foldL (L := fun fu (b : Int32 × Int32) i v => mX9_crossing_L108 ((List.range (pNl p)).foldl (fgF f) 0) (nI a) w fu b.1 b.2 i v) (w := fun b v => w b.1 b.2 v) (n := pNl p) (by omega) (fun v => Fr [78, 79] [41, 42] u v) (crG f (fun q => yeS (neJ p q s t) a)) ?_ ?_ Fr.rf (0, 0)
  · intro fu ⟨x, y⟩ v q hq hF
    have ha' := (hF.qf (by decide) (by decide)).c h
    show ∃ v', _ ∧ mX9_crossing_L108 ((List.range (pNl p)).foldl (fgF f) 0) (nI a) w (fu + 1) x y (nI q) v = _
    rw [mX9_crossing_L108.eq_2, ha'.rl, if_neg (nI_ge hq (by omega)), fg_bit f q4 hq]
    simp only [bd_q, jp_q, nI_1, bI_0]
    unfold crG
    cases c : f q with
    | false => rw [if_pos rfl, if_neg (by decide)]; exact ⟨v, hF, rfl⟩
    | true =>
      rw [if_neg (by decide), if_pos rfl]
      obtain ⟨v1, e1, f1⟩ := IV.saysNew ha' hs hq ha (hy.fr hF (by decide) (by decide))
      rw [e1]
      simp only [ob_q]
      refine ⟨v1, hF.tr f1, ?_⟩
      cases yeS (neJ p q s t) a <;> simp [bI]
  · intro fu ⟨x, y⟩ v hF
    have ha' := (hF.qf (by decide) (by decide)).c h
    show mX9_crossing_L108 ((List.range (pNl p)).foldl (fgF f) 0) (nI a) w (fu + 1) x y (nI (pNl p)) v = _
    rw [mX9_crossing_L108.eq_2, ha'.rl, if_pos (nI_le (Nat.le_refl _) (by omega))]
-- crossing
set_option maxHeartbeats 2000000 in
theorem s_crossing (x1 x2 x3 x4 : Int32) : Step [2, 3, 1] (fun u => mX8_crossing u x1 x2 x3 x4) (fun u => mX9_crossing u x1 x2 x3 x4) := by
  intro u hI
  have ⟨p, h, hv⟩ := hI
  have hw := w0c h
  have n6 := h.1.1.1
  have t6 := h.1.1.2.1
  have q4 := h.1.1.2.2.1
  have n14 := h.2.2.2.2.2.1.2.1.1.1
  cases b1 : inB x1 (pNs p) with
  | false =>
    refine Step.bad hI (k := 2) (v := 0) (b := 0) (c := 1) ?_ ?_ (by decide)
    · unfold mX8_crossing; simp only [bd_q, jp_q, ob_q, on_q, if_true, if_false, Bool.false_eq_true, Bool.true_eq_false, Bool.not_true, Bool.not_false, pr99, pr9, pr8, cReqS h, cReqT h, cReqQ h, cReqL h, cReqB, cReq0, cReq1, cTenthB, cAskB, cFitB, xqz, xq1, xq2, xq3, pl2, pl3, pl4, pl5, pl14, pl40, pl50, pl100, pl999, pe3, pe11, pe30, pe40, pe300, bI_if, bI_0, b1]
    · show mX9_crossing u x1 x2 x3 x4 = _
      unfold mX9_crossing; simp only [bd_q, jp_q, ob_q, on_q, if_true, if_false, Bool.false_eq_true, Bool.true_eq_false, Bool.not_true, Bool.not_false, ir99, ir9, ir8, w0e, rIsS hw, rIsT hw, rIsQ hw, rIsL hw, rBad w00 _ (show (1 : Int32) ≠ 0 by decide), rBad w00 _ (show (2 : Int32) ≠ 0 by decide), rBad w00 _ (show (3 : Int32) ≠ 0 by decide), rBad1 w00 (show (1 : Int32) ≠ 0 by decide), rBad1 w00 (show (2 : Int32) ≠ 0 by decide), rBad1 w00 (show (3 : Int32) ≠ 0 by decide), rBad0 w00 (show (1 : Int32) ≠ 0 by decide), rBad0 w00 (show (2 : Int32) ≠ 0 by decide), rBad0 w00 (show (3 : Int32) ≠ 0 by decide), e10, in2, in3, in4, in5, in10, in14, in29, in39, in40, in50, in100, in299, in999, bI_nn, bI_0, b1]
  | true =>
  obtain ⟨s, hs, rfl⟩ := inB_t (by omega) b1
  cases b2 : inB x2 (pNt p) with
  | false =>
    refine Step.bad hI (k := 3) (v := 0) (b := 0) (c := 2) ?_ ?_ (by decide)
    · unfold mX8_crossing; simp only [bd_q, jp_q, ob_q, on_q, if_true, if_false, Bool.false_eq_true, Bool.true_eq_false, Bool.not_true, Bool.not_false, pr99, pr9, pr8, cReqS h, cReqT h, cReqQ h, cReqL h, cReqB, cReq0, cReq1, cTenthB, cAskB, cFitB, xqz, xq1, xq2, xq3, pl2, pl3, pl4, pl5, pl14, pl40, pl50, pl100, pl999, pe3, pe11, pe30, pe40, pe300, bI_if, bI_0, b1, b2]
    · show mX9_crossing u (nI s) x2 x3 x4 = _
      unfold mX9_crossing; simp only [bd_q, jp_q, ob_q, on_q, if_true, if_false, Bool.false_eq_true, Bool.true_eq_false, Bool.not_true, Bool.not_false, ir99, ir9, ir8, w0e, rIsS hw, rIsT hw, rIsQ hw, rIsL hw, rBad w00 _ (show (1 : Int32) ≠ 0 by decide), rBad w00 _ (show (2 : Int32) ≠ 0 by decide), rBad w00 _ (show (3 : Int32) ≠ 0 by decide), rBad1 w00 (show (1 : Int32) ≠ 0 by decide), rBad1 w00 (show (2 : Int32) ≠ 0 by decide), rBad1 w00 (show (3 : Int32) ≠ 0 by decide), rBad0 w00 (show (1 : Int32) ≠ 0 by decide), rBad0 w00 (show (2 : Int32) ≠ 0 by decide), rBad0 w00 (show (3 : Int32) ≠ 0 by decide), e10, in2, in3, in4, in5, in10, in14, in29, in39, in40, in50, in100, in299, in999, bI_nn, bI_0, b1, b2]
  | true =>
  obtain ⟨t, ht, rfl⟩ := inB_t (by omega) b2
  cases b3 : inB x3 3 with
  | false =>
    refine Step.bad hI (k := 1) (v := 0) (b := 0) (c := 3) ?_ ?_ (by decide)
    · unfold mX8_crossing; simp only [bd_q, jp_q, ob_q, on_q, if_true, if_false, Bool.false_eq_true, Bool.true_eq_false, Bool.not_true, Bool.not_false, pr99, pr9, pr8, cReqS h, cReqT h, cReqQ h, cReqL h, cReqB, cReq0, cReq1, cTenthB, cAskB, cFitB, xqz, xq1, xq2, xq3, pl2, pl3, pl4, pl5, pl14, pl40, pl50, pl100, pl999, pe3, pe11, pe30, pe40, pe300, bI_if, bI_0, b1, b2, b3]
    · show mX9_crossing u (nI s) (nI t) x3 x4 = _
      unfold mX9_crossing; simp only [bd_q, jp_q, ob_q, on_q, if_true, if_false, Bool.false_eq_true, Bool.true_eq_false, Bool.not_true, Bool.not_false, ir99, ir9, ir8, w0e, rIsS hw, rIsT hw, rIsQ hw, rIsL hw, rBad w00 _ (show (1 : Int32) ≠ 0 by decide), rBad w00 _ (show (2 : Int32) ≠ 0 by decide), rBad w00 _ (show (3 : Int32) ≠ 0 by decide), rBad1 w00 (show (1 : Int32) ≠ 0 by decide), rBad1 w00 (show (2 : Int32) ≠ 0 by decide), rBad1 w00 (show (3 : Int32) ≠ 0 by decide), rBad0 w00 (show (1 : Int32) ≠ 0 by decide), rBad0 w00 (show (2 : Int32) ≠ 0 by decide), rBad0 w00 (show (3 : Int32) ≠ 0 by decide), e10, in2, in3, in4, in5, in10, in14, in29, in39, in40, in50, in100, in299, in999, bI_nn, bI_0, b1, b2, b3]
  | true =>
  obtain ⟨a, ha, rfl⟩ := inB_t (by decide) b3
  cases b4 : inB x4 15 with
  | false =>
    refine Step.bad hI (k := 1) (v := 0) (b := 0) (c := 3) ?_ ?_ (by decide)
    · unfold mX8_crossing; simp only [bd_q, jp_q, ob_q, on_q, if_true, if_false, Bool.false_eq_true, Bool.true_eq_false, Bool.not_true, Bool.not_false, pr99, pr9, pr8, cReqS h, cReqT h, cReqQ h, cReqL h, cReqB, cReq0, cReq1, cTenthB, cAskB, cFitB, xqz, xq1, xq2, xq3, pl2, pl3, pl4, pl5, pl14, pl40, pl50, pl100, pl999, pe3, pe11, pe30, pe40, pe300, bI_if, bI_0, b1, b2, b3, b4, inB_in02]
    · show mX9_crossing u (nI s) (nI t) (nI a) x4 = _
      unfold mX9_crossing; simp only [bd_q, jp_q, ob_q, on_q, if_true, if_false, Bool.false_eq_true, Bool.true_eq_false, Bool.not_true, Bool.not_false, ir99, ir9, ir8, w0e, rIsS hw, rIsT hw, rIsQ hw, rIsL hw, rBad w00 _ (show (1 : Int32) ≠ 0 by decide), rBad w00 _ (show (2 : Int32) ≠ 0 by decide), rBad w00 _ (show (3 : Int32) ≠ 0 by decide), rBad1 w00 (show (1 : Int32) ≠ 0 by decide), rBad1 w00 (show (2 : Int32) ≠ 0 by decide), rBad1 w00 (show (3 : Int32) ≠ 0 by decide), rBad0 w00 (show (1 : Int32) ≠ 0 by decide), rBad0 w00 (show (2 : Int32) ≠ 0 by decide), rBad0 w00 (show (3 : Int32) ≠ 0 by decide), e10, in2, in3, in4, in5, in10, in14, in29, in39, in40, in50, in100, in299, in999, bI_nn, bI_0, b1, b2, b3, b4, inB_in02]
  | true =>
  obtain ⟨m, hm, rfl⟩ := inB_t (by decide) b4
  obtain ⟨u1, ⟨q1, hv1⟩, e1⟩ := IV.fitC h hv (nI m)
  obtain ⟨u2, ⟨q2, hv2⟩, e2⟩ := IV.crossC (q1.c h) hv1 hs ht ha (fgB p u (nI m))
  have q3 := q1.tr q2
  have hw1 := w0c (q3.c h)
  obtain ⟨u3, f3, e3⟩ := IV.fitR hw1 (nI m)
  have qw : QF u (w0 u2) := q3.tr QF.w0
  rw [qw.fg] at e3
  have q4' : QF (w0 u2) u3 := f3.qf (by decide) (by decide)
  obtain ⟨u4, e4, ⟨f4, g4⟩, y4⟩ := IV.comes (q4'.c hw1) hs ht
  have q5 := q4'.tr (f4.qf81 g4)
  have hw4 := q5.c hw1
  obtain ⟨u5, f5, e5⟩ := IV.crossR hw4 hs ha y4 (fgB p u (nI m)) (w := fun x135 x136 u137 => if (List.range (pNl p)).foldl (fgF (fgB p u (nI m))) 0 = 0 then some (0, u137) else if x135 = 0 then some (1, u137) else if x136 = 0 then some (2, u137) else some (3, u137))
  have q6 := q5.tr (f5.qf (by decide) (by decide))
  have hcr := cr_eq (fgB p u (nI m)) (fun q => yeS (neJ p q s t) a) q4
  refine Step.ask h (u1 := u2) (u2 := u5) (v := (List.range (pNl p)).foldl (crF (fgB p u (nI m)) (fun q => yeS (neJ p q s t) a)) 0) ?_ ?_ q3 hv2 (QF.w0.tr q6) (by rw [f5.m1 (by decide) (by decide), f4.m1 (by decide) (by decide), f3.m1 (by decide) (by decide), w054]) (by rw [f5.2.1 0 (by simp), f4.2.1 0 (by simp), f3.2.1 0 (by simp), w00])
  · unfold mX8_crossing; simp only [bd_q, jp_q, ob_q, on_q, if_true, if_false, Bool.false_eq_true, Bool.true_eq_false, Bool.not_true, Bool.not_false, pr99, pr9, pr8, cReqS h, cReqT h, cReqQ h, cReqL h, cReqB, cReq0, cReq1, cTenthB, cAskB, cFitB, xqz, xq1, xq2, xq3, pl2, pl3, pl4, pl5, pl14, pl40, pl50, pl100, pl999, pe3, pe11, pe30, pe40, pe300, bI_if, bI_0, b1, b2, b3, b4, inB_in02, inB_in14, e1, e2]
  · show mX9_crossing u2 (nI s) (nI t) (nI a) (nI m) = _
    have hw := hw1
    unfold mX9_crossing; simp only [bd_q, jp_q, ob_q, on_q, if_true, if_false, Bool.false_eq_true, Bool.true_eq_false, Bool.not_true, Bool.not_false, ir99, ir9, ir8, w0e, rIsS hw, rIsT hw, rIsQ hw, rIsL hw, rBad w00 _ (show (1 : Int32) ≠ 0 by decide), rBad w00 _ (show (2 : Int32) ≠ 0 by decide), rBad w00 _ (show (3 : Int32) ≠ 0 by decide), rBad1 w00 (show (1 : Int32) ≠ 0 by decide), rBad1 w00 (show (2 : Int32) ≠ 0 by decide), rBad1 w00 (show (3 : Int32) ≠ 0 by decide), rBad0 w00 (show (1 : Int32) ≠ 0 by decide), rBad0 w00 (show (2 : Int32) ≠ 0 by decide), rBad0 w00 (show (3 : Int32) ≠ 0 by decide), e10, in2, in3, in4, in5, in10, in14, in29, in39, in40, in50, in100, in299, in999, bI_nn, bI_0, b1, b2, b3, b4, inB_in02, inB_in14, inB_in02, inB_in14, e3, e4, e5]
    rw [← hcr]
    unfold crH
    split <;> first | rfl | (split <;> first | rfl | (split <;> rfl))
