/-! ===== next ===== -/
def leF (p : IP) (u : HS) (s t : Nat) (a : Int64 × Int64) (q : Nat) : Int64 × Int64 := if yeS (neJ p q s t) 0 = true then (a.1 + odS p u q, a.2) else (a.1, a.2 + odS p u q)
def leS (p : IP) (u : HS) (s t : Nat) : Int64 × Int64 := (List.range (pNl p)).foldl (leF p u s t) (0, 0)
def leV (p : IP) (u : HS) (s t : Nat) : Int64 := if (leS p u s t).2 < (leS p u s t).1 then (leS p u s t).2 else (leS p u s t).1
def nxF (p : IP) (u : HS) (s : Nat) (a : Int32 × Int64) (t : Nat) : Int32 × Int64 := if oddS (pC p s) = -1 then a else if a.1 = -1 then (10 * nI s + nI t, leV p u s t) else if lg_cmp (leV p u s t) a.2 ≤ 0 then a else (10 * nI s + nI t, leV p u s t)
def nxS (p : IP) (u : HS) : Int32 × Int64 := (List.range (pNs p)).foldl (fun a s => (List.range (pNt p)).foldl (nxF p u s) a) (-1, 0)
theorem fold_same {α : Type} {F : α → Nat → α} (h : ∀ a k, F a k = a) (n : Nat) (a : α) : (List.range n).foldl F a = a := by
  induction n with
  | zero => rfl
  | succ n ih => rw [rsucc, ih, h]
theorem fold_grid {α : Type} (G : Nat → α → Nat → α) (n : Nat) (a : α) : ∀ m, (List.range (m * n)).foldl (fun a v => G (v / n) a (v % n)) a = (List.range m).foldl (fun a s => (List.range n).foldl (G s) a) a := by
  intro m
  induction m with
  | zero => simp
  | succ m ih =>
    rw [rsucc, ← ih]
    generalize hb : (List.range (m * n)).foldl (fun a v => G (v / n) a (v % n)) a = b
    have key : ∀ k, k ≤ n → (List.range (m * n + k)).foldl (fun a v => G (v / n) a (v % n)) a = (List.range k).foldl (G m) b := by
      intro k
      induction k with
      | zero => exact fun _ => hb
      | succ k ik =>
        intro hk
        have e1 : (m * n + k) / n = m := by rw [Nat.add_comm, Nat.add_mul_div_right _ _ (show 0 < n by omega), Nat.div_eq_of_lt (by omega)]; omega
        have e2 : (m * n + k) % n = k := by rw [Nat.add_comm, Nat.add_mul_mod_self_right, Nat.mod_eq_of_lt (by omega)]
        rw [← Nat.add_assoc, rsucc, rsucc, ik (by omega)]
        show G ((m * n + k) / n) _ ((m * n + k) % n) = _
        rw [e1, e2]
    have := key n (Nat.le_refl _)
    rw [show (m + 1) * n = m * n + n from Nat.succ_mul m n]
    exact this
/-! the odds, and the class's longs stay -/
theorem IV.oddsC2 {p : IP} {u : HS} (h : IVc p u) (hv : IVs p u) {q : Nat} (hq : q < pNl p) : ∃ u', (QF u u' ∧ IVs p u' ∧ gL u' = gL u) ∧ mX8_oddsOf u (nI q) = some (odS p u q, u') := by
  have n14 := h.n14
  have q4 := h.1.1.2.2.1
  unfold mX8_oddsOf
  rw [ck_nI (show q < 4 by omega) (by decide)]
  simp only [ob_q, bd_q, jp_q]
  rw [h.wt.1 q (by omega)]
  refine foldL (L := mX8_oddsOf_L14 (nI q) (fun x v => some (x, v))) (w := fun x v => some (x, v)) (by omega) (fun v => QF u v ∧ IVs p v ∧ gL v = gL u) (odF p u q) ?_ ?_ ⟨QF.rf, hv, rfl⟩ _
  · intro fu y v k hk ⟨hqa, hva, hga⟩
    have ha' := hqa.c h
    rw [mX8_oddsOf_L14.eq_2, ha'.hn, if_neg (nI_ge hk (by omega)), ha'.heard hk, hqa.ak]
    simp only [ob_q, bd_q, jp_q, nI_1, bI_0]
    unfold odF
    cases c1 : akB p u k with
    | false => rw [if_pos rfl, if_neg (by decide)]; exact ⟨v, ⟨hqa, hva, hga⟩, rfl⟩
    | true =>
      rw [if_neg (by decide), if_pos rfl]
      obtain ⟨v1, e1, f1, s1⟩ := IV.stateOf ha' hva hk hq
      have q1 := hqa.tr (f1.qf (fun r hr => hr))
      rw [(hqa.lo (p := p) q k).2.2.2] at e1
      have hb := q1.c h
      rw [e1]
      simp only [ob_q]
      rw [show mX8_isYes (loJ p u q k) 0 = _ from cYes _ (show 0 < 3 by decide), show mX0_reply v1 0 (nI k) 0 = _ from hb.rep hk (show 0 < 3 by decide)]
      simp only [ob_q, Nat.add_zero, hb.wt.2, q1.lk2, q1.2.2.1 31 (by decide)]
      refine ⟨v1, ⟨q1, s1, f1.2.2.1.trans hga⟩, ?_⟩
      unfold alB
      by_cases c : lkF u k 3 = 1
      · rw [if_pos c]
        cases yeS (loJ p u q k) 0 <;> simp [c, bI]
      · rw [if_neg c]
        cases yeS (loJ p u q k) 0 <;> simp [c, bI]
  · intro fu y v ⟨hqa, hva, hga⟩
    rw [mX8_oddsOf_L14.eq_2, (hqa.c h).hn, if_pos (nI_le (Nat.le_refl _) (by omega))]
theorem IV.lesserC {p : IP} {u v0 : HS} (h : IVc p u) (hq0 : QF u v0) (hv : IVs p v0) {s t : Nat} (hs : s < pNs p) (ht : t < pNt p) (ho : ∀ q, q < pNl p → gL v0 55 0 q = odS p u q) : ∃ u', (QF u u' ∧ IVs p u' ∧ gL u' = gL v0) ∧ mX8_lesserOdds v0 (nI s) (nI t) = some (leV p u s t, u') := by
  have q4 := h.1.1.2.2.1
  unfold mX8_lesserOdds
  simp only [jp_q, bd_q]
  obtain ⟨u', hu', e⟩ := foldL (L := fun fu (b : Int64 × Int64) i v => mX8_lesserOdds_L8 (nI s) (nI t) (fun y105 y106 u107 => some (if y106 < y105 then y106 else y105, u107)) fu b.1 b.2 i v) (w := fun b v => some (if b.2 < b.1 then b.2 else b.1, v)) (n := pNl p) (by omega) (fun v => QF u v ∧ IVs p v ∧ gL v = gL v0) (leF p u s t) (by
    intro fu ⟨x, y⟩ v q hq ⟨hqa, hva, hga⟩
    have ha' := hqa.c h
    show ∃ v', _ ∧ mX8_lesserOdds_L8 (nI s) (nI t) _ (fu + 1) x y (nI q) v = _
    rw [mX8_lesserOdds_L8.eq_2, ha'.nl, if_neg (nI_ge hq (by omega))]
    obtain ⟨v1, e1, f1, s1⟩ := IV.stateNew ha' hva hs ht hq
    rw [e1]
    simp only [ob_q, bd_q, jp_q, nI_1, show mX8_isYes (neJ p q s t) 0 = _ from cYes _ (show 0 < 3 by decide), bI_0, ck_nI (show q < 4 by omega) (by decide), f1.2.2.1, hga, ho q hq]
    refine ⟨v1, ⟨hqa.tr (f1.qf (fun r hr => hr)), s1, f1.2.2.1.trans hga⟩, ?_⟩
    unfold leF
    cases yeS (neJ p q s t) 0 with
    | false => rw [if_pos rfl, if_neg (by decide)]
    | true => rw [if_neg (by decide), if_pos rfl]) (by
    intro fu ⟨x, y⟩ v ⟨hqa, hva, hga⟩
    show mX8_lesserOdds_L8 (nI s) (nI t) _ (fu + 1) x y (nI (pNl p)) v = _
    rw [mX8_lesserOdds_L8.eq_2, (hqa.c h).nl, if_pos (nI_le (Nat.le_refl _) (by omega))]) ⟨hq0, hv, rfl⟩ (0, 0)
  exact ⟨u', hu', e⟩
theorem IV.nextC {p : IP} {u : HS} (h : IVc p u) (hv : IVs p u) (h0 : 0 < pNl p) : ∃ u', (QF u u' ∧ IVs p u') ∧ mX8_next u = some ((nxS p u).1, u') := by
  have q4 := h.1.1.2.2.1
  have n6 := h.1.1.1
  have t6 := h.1.1.2.1
  unfold mX8_next
  rw [h.nl, if_neg (show ¬ nI (pNl p) = 0 from fun z => by have := (nI_eq (a := pNl p) (b := 0) (by omega) (by decide)).mp z; omega)]
  simp only [jp_q]
  -- the odds
  have h1 : ∃ v0, (QF u v0 ∧ IVs p v0 ∧ ∀ q, q < pNl p → gL v0 55 0 q = odS p u q) ∧ mX8_next_L11 (fun u104 => mX8_next_L43 (fun x110 u111 => some (x110, u111)) FU (-1) 0 0 u104) FU 0 u = mX8_next_L43 (fun x110 u111 => some (x110, u111)) FU (-1) 0 0 v0 := by
    refine loopR (fun fu (a : HS) y => mX8_next_L11 (fun u104 => mX8_next_L43 (fun x110 u111 => some (x110, u111)) FU (-1) 0 0 u104) fu y a) (pNl p) 0 (fun k a => QF u a ∧ IVs p a ∧ ∀ q, q < k → gL a 55 0 q = odS p u q) (fun o => ∃ v0, (QF u v0 ∧ IVs p v0 ∧ ∀ q, q < pNl p → gL v0 55 0 q = odS p u q) ∧ o = mX8_next_L43 (fun x110 u111 => some (x110, u111)) FU (-1) 0 0 v0) ?_ ?_ (pNl p) 0 u FU (Nat.le_refl _) (by omega) (FU_lt (by omega)) ⟨QF.rf, hv, fun q hq => absurd hq (by omega)⟩
    · intro fu a k _ hk ⟨hqa, hva, hga⟩ ih
      have ha' := hqa.c h
      obtain ⟨v1, ⟨q1, s1, g1⟩, e1⟩ := IV.oddsC2 ha' hva hk
      rw [(hqa.od (p := p) k).2] at e1
      show ∃ v0, _ ∧ mX8_next_L11 _ (fu + 1) (nI k) a = _
      rw [mX8_next_L11.eq_2, ha'.nl, if_neg (nI_ge hk (by omega)), e1]
      simp only [ob_q, bd_q, ck_nI (show k < 4 by omega) (by decide), nI_1]
      refine ih _ ⟨⟨(hqa.tr q1).1, (hqa.tr q1).2.1, (hqa.tr q1).2.2.1, (hqa.tr q1).2.2.2⟩, s1, fun q hq => ?_⟩
      rw [gL_wL]
      by_cases c : q = k
      · subst c; rw [if_pos ⟨rfl, rfl, rfl⟩]
      · rw [if_neg (fun z => c z.2.2), g1]; exact hga q (by omega)
    · intro fu a ⟨hqa, hva, hga⟩
      show ∃ v0, _ ∧ mX8_next_L11 _ (fu + 1) (nI (pNl p)) a = _
      rw [mX8_next_L11.eq_2, (hqa.c h).nl, if_pos (nI_le (Nat.le_refl _) (by omega))]
      exact ⟨a, ⟨hqa, hva, hga⟩, rfl⟩
  obtain ⟨v0, ⟨hq0, hv0, ho⟩, e⟩ := h1
  rw [e]
  clear e
  refine foldL (L := fun fu (a : Int32 × Int64) i v => mX8_next_L43 (fun x v => some (x, v)) fu a.1 a.2 i v) (w := fun a v => some (a.1, v)) (n := pNs p) (by omega) (fun v => QF u v ∧ IVs p v ∧ gL v = gL v0) _ ?_ ?_ ⟨hq0, hv0, rfl⟩ (-1, 0) |>.imp fun u' z => ⟨⟨z.1.1, z.1.2.1⟩, z.2⟩
  · intro fu ⟨x, y⟩ v s hs ⟨hqa, hva, hga⟩
    have ha' := hqa.c h
    show ∃ v', _ ∧ mX8_next_L43 _ (fu + 1) x y (nI s) v = _
    rw [mX8_next_L43.eq_2, show gI v 8 0 2 = nI (pNs p) from ha'.1.2.1.1, if_neg (nI_ge hs (by omega))]
    simp only [jp_q, bd_q, nI_1]
    have a4 := (ha'.2.2.1 _ hs).2.2.1.2.2.2.2.1
    by_cases co : oddS (pC p s) = -1
    · refine ⟨v, ⟨hqa, hva, hga⟩, ?_⟩
      rw [fold_same (fun a k => by unfold nxF; rw [if_pos co]) _ (x, y)]
      show mX8_next_L55 (nI s) _ (4095 + 1) x y (nI 0) v = _
      rw [mX8_next_L55.eq_2]
      by_cases c4 : gI v 8 0 4 ≤ nI 0
      · rw [if_pos c4]
      · rw [if_neg c4, ck_nI (show s < 6 by omega) (by decide)]
        simp only [ob_q]
        rw [if_pos (a4.trans co)]
    · refine foldL (L := fun fu' (a : Int32 × Int64) i v => mX8_next_L55 (nI s) (fun x118 y119 u120 => mX8_next_L43 (fun x v => some (x, v)) fu x118 y119 (nI (s + 1)) u120) fu' a.1 a.2 i v) (w := fun a v => mX8_next_L43 (fun x v => some (x, v)) fu a.1 a.2 (nI (s + 1)) v) (n := pNt p) (by omega) (fun v => QF u v ∧ IVs p v ∧ gL v = gL v0) (nxF p u s) ?_ ?_ ⟨hqa, hva, hga⟩ (x, y)
      · intro fu' ⟨x, y⟩ v t ht ⟨hqa, hva, hga⟩
        have ha' := hqa.c h
        have a4 := (ha'.2.2.1 _ hs).2.2.1.2.2.2.2.1
        show ∃ v', _ ∧ mX8_next_L55 (nI s) _ (fu' + 1) x y (nI t) v = _
        rw [mX8_next_L55.eq_2, show gI v 8 0 4 = nI (pNt p) from ha'.1.2.1.2.1, if_neg (nI_ge ht (by omega)), ck_nI (show s < 6 by omega) (by decide)]
        simp only [ob_q]
        rw [if_neg (fun z => co (a4.symm.trans z))]
        obtain ⟨v1, ⟨q1, s1, g1⟩, e1⟩ := IV.lesserC h hqa hva hs ht (fun q hq => by rw [hga]; exact ho q hq)
        rw [e1]
        simp only [ob_q, bd_q, jp_q, nI_1]
        refine ⟨v1, ⟨q1, s1, g1.trans hga⟩, ?_⟩
        unfold nxF
        rw [if_neg co]
        by_cases c : x = -1
        · rw [if_pos c, if_pos c]
        · rw [if_neg c, if_neg c]
          by_cases d : lg_cmp (leV p u s t) y ≤ 0
          · rw [if_pos d, if_pos d]
          · rw [if_neg d, if_neg d]
      · intro fu' ⟨x, y⟩ v ⟨hqa, hva, hga⟩
        show mX8_next_L55 (nI s) _ (fu' + 1) x y (nI (pNt p)) v = _
        rw [mX8_next_L55.eq_2, show gI v 8 0 4 = nI (pNt p) from (hqa.c h).1.2.1.2.1, if_pos (nI_le (Nat.le_refl _) (by omega))]
  · intro fu ⟨x, y⟩ v ⟨hqa, hva, hga⟩
    show mX8_next_L43 _ (fu + 1) x y (nI (pNs p)) v = _
    rw [mX8_next_L43.eq_2, show gI v 8 0 2 = nI (pNs p) from (hqa.c h).1.2.1.1, if_pos (nI_le (Nat.le_refl _) (by omega))]
/-! the reference's -/
theorem IVc.nl91 {p : IP} {u : HS} (h : IVc p u) : IVc p (wNL u) := by
  obtain ⟨h1, h2, h3, h4, h5, h6, h7, h8⟩ := h
  refine ⟨h1, h2, fun s hs => ⟨(h3 s hs).1, ?_⟩, h4, h5, h6, h7, h8⟩
  obtain ⟨a, b, ⟨c1, c2⟩, d⟩ := (h3 s hs).2
  have hs7 := a.1
  refine ⟨a, b, ⟨?_, ?_⟩, d⟩
  · rw [gR_wNL, if_neg (by omega)]; exact c1
  · rw [gR_wNL, if_neg (by omega)]; exact c2
theorem IVs.nl91 {p : IP} {u : HS} (h : IVs p u) : IVs p (wNL u) := h
theorem odS_nl {p : IP} {u : HS} : odS p (wNL u) = odS p u := rfl
def RQ (w a : HS) : Prop := QF w a ∧ gI a 54 = gI w 54 ∧ gI a 9 0 0 = gI w 9 0 0
theorem RQ.fr {w a b : HS} (h : RQ w a) (f : Fr [78, 79] [41, 42] a b) : RQ w b := ⟨h.1.tr (f.qf (by decide) (by decide)), (f.m1 (by decide) (by decide)).trans h.2.1, (f.2.1 0 (by simp)).trans h.2.2⟩
theorem al91_ok {w a : HS} (h : QF w a) (hw : gR w 20 = 1) : al91 a = some () := by
  unfold al91
  rw [h.2.2.2 20 (by decide) (by decide), if_pos hw]
theorem IV.nextR {p : IP} {w : HS} (h : IVc p w) (h0 : 0 < pNl p) (h20 : gR w 20 = 1) : ∃ u', RQ w u' ∧ mX9_next_L11 (fun u105 => mX9_next_L40 (fun x111 u112 => some (x111, u112)) FU (-1) 0 0 u105) FU 0 w = some ((nxS p w).1, u') := by
  have q4 := h.1.1.2.2.1
  have n6 := h.1.1.1
  have t6 := h.1.1.2.1
  have h1 : ∃ v0, (RQ w v0 ∧ ∀ q, q < pNl p → gL v0 91 0 q = odS p w q) ∧ mX9_next_L11 (fun u105 => mX9_next_L40 (fun x111 u112 => some (x111, u112)) FU (-1) 0 0 u105) FU 0 w = mX9_next_L40 (fun x111 u112 => some (x111, u112)) FU (-1) 0 0 v0 := by
    refine loopR (fun fu (a : HS) y => mX9_next_L11 (fun u105 => mX9_next_L40 (fun x111 u112 => some (x111, u112)) FU (-1) 0 0 u105) fu y a) (pNl p) 0 (fun k a => RQ w a ∧ ∀ q, q < k → gL a 91 0 q = odS p w q) (fun o => ∃ v0, (RQ w v0 ∧ ∀ q, q < pNl p → gL v0 91 0 q = odS p w q) ∧ o = mX9_next_L40 (fun x111 u112 => some (x111, u112)) FU (-1) 0 0 v0) ?_ ?_ (pNl p) 0 w FU (Nat.le_refl _) (by omega) (FU_lt (by omega)) ⟨⟨QF.rf, rfl, rfl⟩, fun q hq => absurd hq (by omega)⟩
    · intro fu a k _ hk ⟨hqa, hga⟩ ih
      have ha' := hqa.1.c h
      obtain ⟨v1, f1, e1⟩ := IV.oddsR ha' hk
      rw [(hqa.1.od (p := p) k).2] at e1
      have hq1 := hqa.fr f1
      show ∃ v0, _ ∧ mX9_next_L11 _ (fu + 1) (nI k) a = _
      rw [mX9_next_L11.eq_2, ha'.rl, if_neg (nI_ge hk (by omega)), e1]
      simp only [ob_q, bd_q, al91_ok hq1.1 h20, ck_nI (show k < 4 by omega) (by decide), nI_1]
      refine ih _ ⟨⟨⟨hq1.1.1, hq1.1.2.1, hq1.1.2.2.1, hq1.1.2.2.2⟩, hq1.2.1, hq1.2.2⟩, fun q hq => ?_⟩
      rw [gL_wL]
      by_cases c : q = k
      · subst c; rw [if_pos ⟨rfl, rfl, rfl⟩]
      · rw [if_neg (fun z => c z.2.2), f1.2.2.1]; exact hga q (by omega)
    · intro fu a ⟨hqa, hga⟩
      show ∃ v0, _ ∧ mX9_next_L11 _ (fu + 1) (nI (pNl p)) a = _
      rw [mX9_next_L11.eq_2, (hqa.1.c h).rl, if_pos (nI_le (Nat.le_refl _) (by omega))]
      exact ⟨a, ⟨hqa, hga⟩, rfl⟩
  obtain ⟨v0, ⟨hq0, ho⟩, e⟩ := h1
  rw [e]
  clear e
  unfold nxS
  rw [← fold_grid (nxF p w)]
  have hlt : pNs p * pNt p ≤ 36 := Nat.mul_le_mul n6 t6
  refine foldL (L := fun fu (a : Int32 × Int64) i v => mX9_next_L40 (fun x v => some (x, v)) fu a.1 a.2 i v) (w := fun a v => some (a.1, v)) (n := pNs p * pNt p) (by omega) (fun v => RQ w v ∧ gL v = gL v0) _ ?_ ?_ ⟨hq0, rfl⟩ (-1, 0) |>.imp fun u' z => ⟨z.1.1, z.2⟩
  · intro fu ⟨x, y⟩ v k hk ⟨hqa, hga⟩
    have ha' := hqa.1.c h
    have hnt : 0 < pNt p := Nat.pos_of_ne_zero fun z => by rw [z] at hk; omega
    have hs : k / pNt p < pNs p := (Nat.div_lt_iff_lt_mul hnt).mpr hk
    have ht : k % pNt p < pNt p := Nat.mod_lt _ hnt
    show ∃ v', _ ∧ mX9_next_L40 _ (fu + 1) x y (nI k) v = _
    rw [mX9_next_L40.eq_2, show gI v 9 0 14 = nI (pNs p) from ha'.1.2.2.1, show gI v 9 0 15 = nI (pNt p) from ha'.1.2.2.2.1, pk_mul, if_neg (nI_ge hk (by omega)), ha'.rl, if_neg (show ¬ nI (pNl p) ≤ 0 from nI_ge (a := 0) h0 (by omega)), show nz (nI (pNt p)) = some () from by
      unfold nz
      rw [if_neg (fun z => by have := (nI_eq (a := pNt p) (b := 0) (by omega) (by decide)).mp z; omega)]]
    simp only [pk_rem (show k < 2 ^ 31 by omega) hnt (show pNt p < 2 ^ 31 by omega)]
    simp only [ob_q, bd_q, jp_q, pk_div (show k < 2 ^ 31 by omega) hnt (show pNt p < 2 ^ 31 by omega), rOdd (ha'.2.2.1 _ hs).1, nI_1]
    unfold nxF
    by_cases co : oddS (pC p (k / pNt p)) = -1
    · refine ⟨v, ⟨hqa, hga⟩, ?_⟩
      rw [if_pos co, if_pos co]
    · rw [if_neg co, if_neg co]
      obtain ⟨v1, e1, ⟨f1, g1⟩, y1⟩ := IV.comes ha' hs ht
      have qa : RQ w v1 := ⟨hqa.1.tr (f1.qf81 g1), (f1.m1 (by decide) (by decide)).trans hqa.2.1, (f1.2.1 0 (by simp)).trans hqa.2.2⟩
      have ha1 := qa.1.c h
      rw [show mX9_comes v 14 (nI (k / pNt p)) (nI (k % pNt p)) 0 = _ from e1]
      simp only [ob_q]
      generalize hW : (fun (y134 y135 : Int64) (u136 : HS) => (((if 0 ≤ lg_cmp y134 y135 then some y135 else some y134 : Option Int64).bind fun y138 => if x = -1 then mX9_next_L40 (fun x v => some (x, v)) fu (10 * nI (k / pNt p) + nI (k % pNt p)) y138 (nI (k + 1)) u136 else if 0 < lg_cmp y138 y then mX9_next_L40 (fun x v => some (x, v)) fu (10 * nI (k / pNt p) + nI (k % pNt p)) y138 (nI (k + 1)) u136 else mX9_next_L40 (fun x v => some (x, v)) fu x y (nI (k + 1)) u136) : Option (Int32 × HS))) = W
      obtain ⟨v2, f2, e2⟩ := foldL (L := fun fu (b : Int64 × Int64) i v => mX9_next_L112 W fu b.1 b.2 i v) (w := fun b v => W b.1 b.2 v) (n := pNl p) (by omega) (fun v' => Fr [78, 79] [41, 42] v1 v') (leF p w (k / pNt p) (k % pNt p)) (by
        intro fu ⟨x, y⟩ v q hq hF
        have qf : RQ w v := qa.fr hF
        have ha' := qf.1.c h
        show ∃ v', _ ∧ mX9_next_L112 W (fu + 1) x y (nI q) v = _
        rw [mX9_next_L112.eq_2, ha'.rl, if_neg (nI_ge hq (by omega))]
        obtain ⟨v3, e3, f3⟩ := IV.saysNew ha' hs hq (show 0 < 3 by decide) (y1.fr hF (by decide) (by decide))
        have hq3 := qf.fr f3
        rw [show mX9_saysBy v (nI q) 14 0 = _ from e3]
        simp only [ob_q, bd_q, jp_q, nI_1, bI_0, al91_ok hq3.1 h20, ck_nI (show q < 4 by omega) (by decide), f3.2.2.1, hF.2.2.1, f1.2.2.1, hga, ho q hq]
        refine ⟨v3, hF.tr f3, ?_⟩
        unfold leF
        cases yeS (neJ p q (k / pNt p) (k % pNt p)) 0 with
        | false => rw [if_pos rfl, if_neg (by decide)]
        | true => rw [if_neg (by decide), if_pos rfl]) (by
        intro fu ⟨x, y⟩ v hF
        show mX9_next_L112 W (fu + 1) x y (nI (pNl p)) v = _
        rw [mX9_next_L112.eq_2, ((qa.fr hF).1.c h).rl, if_pos (nI_le (Nat.le_refl _) (by omega))]) Fr.rf (0, 0)
      refine ⟨v2, ⟨qa.fr f2, f2.2.2.1.trans (f1.2.2.1.trans hga)⟩, ?_⟩
      rw [show mX9_next_L112 W FU 0 0 0 v1 = _ from e2, ← hW]
      have em : (if 0 ≤ lg_cmp (leS p w (k / pNt p) (k % pNt p)).1 (leS p w (k / pNt p) (k % pNt p)).2 then some (leS p w (k / pNt p) (k % pNt p)).2 else some (leS p w (k / pNt p) (k % pNt p)).1) = some (leV p w (k / pNt p) (k % pNt p)) := by
        unfold leV
        generalize leS p w (k / pNt p) (k % pNt p) = b
        by_cases c : b.2 < b.1
        · rw [if_pos c, if_pos ((lg_cmp_ge _ _).mpr (Int64.le_of_lt c))]
        · rw [if_neg c]
          by_cases d : 0 ≤ lg_cmp b.1 b.2
          · rw [if_pos d, Int64.le_antisymm ((lg_cmp_ge _ _).mp d) (Int64.not_lt.mp c)]
          · rw [if_neg d]
      show ((if 0 ≤ lg_cmp (leS p w (k / pNt p) (k % pNt p)).1 (leS p w (k / pNt p) (k % pNt p)).2 then some (leS p w (k / pNt p) (k % pNt p)).2 else some (leS p w (k / pNt p) (k % pNt p)).1).bind _) = _
      rw [em]
      simp only [ob_q]
      by_cases c : x = -1
      · rw [if_pos c, if_pos c]
      · rw [if_neg c, if_neg c]
        by_cases d : lg_cmp (leV p w (k / pNt p) (k % pNt p)) y ≤ 0
        · rw [if_pos d, if_neg (fun z => by rw [lg_cmp_gt] at z; rw [lg_cmp_le] at d; exact absurd z (Int64.not_lt.mpr d))]
        · rw [if_neg d, if_pos (by rw [lg_cmp_gt]; rw [lg_cmp_le] at d; exact Int64.not_le.mp d)]
  · intro fu ⟨x, y⟩ v ⟨hqa, hga⟩
    have ha' := hqa.1.c h
    show mX9_next_L40 _ (fu + 1) x y (nI (pNs p * pNt p)) v = _
    rw [mX9_next_L40.eq_2, show gI v 9 0 14 = nI (pNs p) from ha'.1.2.2.1, show gI v 9 0 15 = nI (pNt p) from ha'.1.2.2.2.1, pk_mul, if_pos (nI_le (Nat.le_refl _) (by omega))]
theorem QF.nx {p : IP} {u v : HS} (hF : QF u v) : nxS p v = nxS p u := by
  have e : nxF p v = nxF p u := by
    funext s a t
    unfold nxF leV leS leF
    rw [hF.ods]
  unfold nxS
  rw [e]
theorem nxS_nl {p : IP} {u : HS} : nxS p (wNL u) = nxS p u := rfl
-- next
theorem s_next : StepN mX8_next mX9_next := by
  intro u hI
  have ⟨p, h, hv⟩ := hI
  by_cases h0 : pNl p = 0
  · -- no law
    have hc : mX8_next u = some (-1, u) := by
      unfold mX8_next
      rw [h.nl, h0, if_pos (show nI 0 = 0 from rfl)]
    have hw : IVc p (wNL (w0 u)) := (w0c h).nl91
    have hw2 : IVs p (wNL (w0 u)) := IVs.nl91 (QF.w0.s w054 hv)
    refine ⟨-1, u, wNL (w0 u), hc, ?_, w00 (u := u), p, hw, hw2⟩
    have n6 := h.1.1.1
    have t6 := h.1.1.2.1
    have hlt : pNs p * pNt p ≤ 36 := Nat.mul_le_mul n6 t6
    unfold mX9_next
    simp only [bd_q, jp_q, w0e]
    show mX9_next_L11 _ (4095 + 1) (nI 0) (wNL (w0 u)) = _
    rw [mX9_next_L11.eq_2, hw.rl, h0, if_pos (nI_le (Nat.le_refl _) (by omega))]
    show mX9_next_L40 _ (4095 + 1) (-1) 0 (nI 0) (wNL (w0 u)) = _
    rw [mX9_next_L40.eq_2, hw.rl, h0]
    by_cases c : gI (wNL (w0 u)) 9 0 14 * gI (wNL (w0 u)) 9 0 15 ≤ nI 0
    · rw [if_pos c]
    · rw [if_neg c, if_pos (show nI 0 ≤ 0 by decide)]
  · obtain ⟨u1, ⟨q1, s1⟩, e1⟩ := IV.nextC h hv (Nat.pos_of_ne_zero h0)
    have hw := (w0c (q1.c h)).nl91
    have hw2 : IVs p (wNL (w0 u1)) := IVs.nl91 (QF.w0.s w054 s1)
    obtain ⟨u2, r2, e2⟩ := IV.nextR hw (Nat.pos_of_ne_zero h0) (by rw [gR_wNL, if_pos rfl])
    refine ⟨_, u1, u2, e1, ?_, r2.2.2.trans (w00 (u := u1)), p, r2.1.c hw, r2.1.s r2.2.1 hw2⟩
    unfold mX9_next
    simp only [bd_q, jp_q, w0e]
    rw [e2, nxS_nl, QF.nx (show QF u (w0 u1) from q1.tr QF.w0)]
