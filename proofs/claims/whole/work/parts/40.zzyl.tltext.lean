/-! ===== the reference reads a law's text ===== -/
theorem RLs.w {B : Nat → Int32} {n k o : Nat} {s : LSt} {u : HS} {r i z : Nat} {x : Int32} (h : RLs B n k o s u) (hr : 9 ≠ r ∧ 60 ≠ r ∧ 61 ≠ r) : RLs B n k o s (wI u r i z x) := by
  obtain ⟨h1, h2, h3⟩ := h
  refine ⟨h1.w hr.1 hr.2.1, ?_, fun pc hpc => by rw [gI_r hr.1]; exact h3 pc hpc⟩
  unfold RD at h2 ⊢
  rw [gI_r hr.1, gI_r hr.2.2]
  exact h2
theorem RLs.w9 {B : Nat → Int32} {n k o : Nat} {s : LSt} {u : HS} {x : Int32} (h : RLs B n k o s u) : RLs B n k o s (wI u 9 0 9 x) := by
  obtain ⟨h1, h2, h3⟩ := h
  refine ⟨h1.w9 (by decide), ?_, fun pc hpc => by rw [gI_k (by decide)]; exact h3 pc hpc⟩
  unfold RD at h2 ⊢
  rw [gI_k (by decide), gI_r (by decide)]
  exact h2
def TLf (k : Nat) (u v : HS) : Prop := Fr [61, 63] [4, 5, 6, 7, 8, 9] u v ∧ ∀ i, i ≠ k → gI v 63 i = gI u 63 i
theorem TLf.rf {k : Nat} {u : HS} : TLf k u u := ⟨Fr.rf, fun _ _ => rfl⟩
theorem TLf.tr {k : Nat} {u v w : HS} (h : TLf k u v) (h2 : TLf k v w) : TLf k u w := ⟨h.1.tr h2.1, fun i hi => (h2.2 i hi).trans (h.2 i hi)⟩
theorem RF.tl {k : Nat} {u v : HS} (h : RF u v) : TLf k u v := ⟨Fr.mo h (by decide) (by decide), fun i _ => by rw [h.1 63 (by decide) (by decide)]⟩
theorem TLf.w {k z : Nat} {u v : HS} {x : Int32} (h : TLf k u v) : TLf k u (wI v 63 k z x) := ⟨h.1.sI (by decide) (by decide), fun i hi => by rw [gI_ri hi]; exact h.2 i hi⟩
theorem TLf.w9 {k : Nat} {u v : HS} {x : Int32} (h : TLf k u v) : TLf k u (wI v 9 0 9 x) := ⟨h.1.w9 (by decide), fun i hi => by rw [gI_r (by decide)]; exact h.2 i hi⟩
theorem RF.m63 {u v : HS} (h : RF u v) : gI v 63 = gI u 63 := h.1 63 (by decide) (by decide)
theorem tLawC {B : Nat → Int32} {n k p : Nat} {c : List Int32} {u : HS} (hn : n ≤ 400) (h : RLs B n 0 0 (.ok (p, c)) u) (l : LexR B n p u) (hc : gI u 9 0 9 = nI k) (hk : k ≤ 16) : ∃ u', mX9_lawClauseHere u = some u' ∧ TLf k u u' ∧ (match wdO 10 B n p with
    | none => RPs B n (.error (1, p)) u'
    | some j => if k < 16 then (match lcS B n (sk B n (wsE B n p)) c with
      | .error e => RPs B n (.error e) u'
      | .ok q => RLs B n 0 0 (lG B n (.ok (q.1, q.2.2.2)) 59) u' ∧ gI u' 9 0 9 = nI (k + 1) ∧ ∀ z, z < 4 → gI u' 63 k z = rJ (j, c.length, q.2.1, q.2.2.1) z) else RPs B n (.error (3, p)) u') := by
  have hp := h.1.le
  have hpn : p ≤ n := hp.1
  have hsk : sk B n p = p := hp.2.2
  obtain ⟨u1, e1, l1, f1⟩ := tLawHere l h.1.2.1
  rw [hsk] at l1
  have h1 : RLs B n 0 0 (.ok (p, c)) u1 := h.st f1 (by decide) ⟨⟨p, l1, hsk⟩, by rw [f1.2.1 6 (by decide)]; exact h.1.2.1, by rw [f1.2.1 7 (by decide)]; exact h.1.2.2⟩
  have k9 : gI u1 9 0 9 = nI k := (f1.2.1 9 (by decide)).trans hc
  have k6 : gI u1 9 0 6 = 0 := h1.1.2.1
  have F1 : TLf k u u1 := (RF.of f1 (by decide)).tl
  unfold mX9_lawClauseHere
  rw [e1]
  simp only [ob_q, bd_q]
  cases hs : wdO 10 B n p with
  | none =>
    obtain ⟨u2, e2, f2, l2, g2⟩ := tNeeds (m := 16) none (fun j hj => by cases hj) l1 k6 k9 (by omega) (by decide)
    have g2' : gI u2 9 0 6 = 1 ∧ gI u2 9 0 7 = nI p := g2
    rw [show mX9_needs u1 ((none : Option Nat).elim (-1) nI) 16 = some u2 from e2]
    simp only [ob_q]
    rw [if_neg (by rw [g2'.1]; decide)]
    exact ⟨u2, rfl, F1.tr (RF.of f2 (by decide)).tl, ⟨p, l2.lx⟩, show (1 : Int32) ≠ 0 by decide, g2'.1, g2'.2⟩
  | some j =>
    have hj4 := wd10_lt hs
    have w1 := wdO_st hs hpn wr10
    rw [hsk] at w1
    obtain ⟨u2, e2, f2, l2, g2⟩ := tNeeds (m := 16) (some j) (fun j' hj => by injection hj with hj; omega) l1 k6 k9 (by omega) (by decide)
    have g2' : if k = 16 then gI u2 9 0 6 = 3 ∧ gI u2 9 0 7 = nI p else u2 = u1 := g2
    rw [show mX9_needs u1 ((some j).elim (-1) nI) 16 = some u2 from e2]
    simp only [ob_q]
    by_cases c0 : k = 16
    · rw [if_pos c0] at g2'
      rw [if_neg (by rw [g2'.1]; decide)]
      simp only [if_neg (show ¬ k < 16 by omega)]
      exact ⟨u2, rfl, F1.tr (RF.of f2 (by decide)).tl, ⟨p, l2.lx⟩, show (3 : Int32) ≠ 0 by decide, g2'.1, g2'.2⟩
    · rw [if_neg c0] at g2'
      subst g2'
      rw [if_pos k6]
      simp only [if_pos (show k < 16 by omega)]
      obtain ⟨u3, e3, c3, f3⟩ := tSkW h1 l2 w1
      rw [e3]
      simp only [ob_q]
      have F3 : TLf k u u3 := F1.tr f3.tl
      have q9 : gI u3 9 0 9 = nI k := (f3.2.1 9 (by decide)).trans k9
      rw [q9, ck_nI (show k < 24 by omega) (by decide)]
      simp only [ob_q, show ck 8 0 = some 0 from by decide, show ck 8 1 = some 1 from by decide, show ck 8 2 = some 2 from by decide, show ck 8 3 = some 3 from by decide, gI_r (show 9 ≠ 63 by decide), show gI u3 9 0 8 = nI c.length from c3.2.1.1]
      have c4 : RLs B n 1 0 (.ok (sk B n (wsE B n p), c)) (wI (wI u3 63 k 0 ((some j).elim (-1) nI)) 63 k 1 (nI c.length)) := (c3.w (by decide)).w (by decide)
      have F4 : TLf k u (wI (wI u3 63 k 0 ((some j).elim (-1) nI)) 63 k 1 (nI c.length)) := F3.w.w
      obtain ⟨u5, e5, c5, f5⟩ := tGrp hn 64 0 0 (by decide) (by decide) (by decide) 0 _ _ c4.wk
      rw [show mX9_sum (wI (wI u3 63 k 0 ((some j).elim (-1) nI)) 63 k 1 (nI c.length)) = some u5 from e5]
      simp only [ob_q]
      have F5 : TLf k u u5 := F4.tr f5.tl
      have r0 : gI u5 63 k 0 = nI j := by rw [f5.m63, gI_k (by decide), gI_eq]; rfl
      have r1 : gI u5 63 k 1 = nI c.length := by rw [f5.m63, gI_eq]
      have n9 : gI u5 9 0 9 = nI k := by rw [f5.2.1 9 (by decide), gI_r (by decide), gI_r (by decide), q9]
      unfold lcS
      cases hA : gS B n 64 0 0 (.ok (sk B n (wsE B n p), c)) with
      | error e =>
        rw [hA] at c5
        have c6 : RPs B n (.error e) (wI (wI u5 63 k 2 (gI u5 9 0 8)) 63 k 3 (-1)) := ((c5.w (by decide)).w (by decide) : RLs B n 0 0 (.error e) _).1
        rw [tIsWE (by rw [c6.2.2.1]; exact c6.2.1)]
        simp only [ob_q, if_true]
        obtain ⟨u7, e7, f7, c7⟩ := tSignS (.error e) (ch := 59) (by decide) c6
        rw [e7]
        simp only [ob_q]
        exact ⟨_, rfl, (F5.w.w.tr (RF.of f7 (by decide)).tl).w9, c7.w9 (by decide)⟩
      | ok pc =>
        obtain ⟨p1, c1⟩ := pc
        rw [hA] at c5
        rw [show gI u5 9 0 8 = nI c1.length from c5.2.1.1]
        obtain ⟨ua, hua⟩ : ∃ ua, ua = wI (wI u5 63 k 2 (nI c1.length)) 63 k 3 (-1) := ⟨_, rfl⟩
        have ca : RLs B n 0 0 (.ok (p1, c1)) ua := by rw [hua]; exact (c5.w (by decide)).w (by decide)
        have Fa : TLf k u ua := by rw [hua]; exact F5.w.w
        have a0 : gI ua 63 k 0 = nI j := by rw [hua, gI_k (by decide), gI_k (by decide)]; exact r0
        have a1 : gI ua 63 k 1 = nI c.length := by rw [hua, gI_k (by decide), gI_k (by decide)]; exact r1
        have a2 : gI ua 63 k 2 = nI c1.length := by rw [hua, gI_k (by decide), gI_eq]
        have a3 : gI ua 63 k 3 = -1 := by rw [hua, gI_eq]
        have a9 : gI ua 9 0 9 = nI k := by rw [hua, gI_r (by decide), gI_r (by decide)]; exact n9
        rw [← hua]
        have hp1 := ca.1.le
        have hp1n : p1 ≤ n := hp1.1
        have hsk1 : sk B n p1 = p1 := hp1.2.2
        have wd : wdO 11 B n p1 = if eqW B p1 (wsE B n p1 - p1) [105, 102] = true then some 0 else none := wd1e rfl (by decide) hsk1
        obtain ⟨ub, eb, lb, cb, fb⟩ := tIsW (w := [105, 102]) (a1 := 9) (a2 := 6) (a3 := 0) (a4 := 0) (a5 := 0) (a6 := 0) (by decide) (by decide) (by decide) ca
        rw [eb]
        simp only [ob_q]
        have Fb : TLf k u ub := Fa.tr fb.tl
        by_cases q : eqW B p1 (wsE B n p1 - p1) [105, 102] = true
        · rw [if_pos q] at wd
          rw [wd, if_pos (show (some 0 : Option Nat) = some 0 from rfl), q, if_neg (show ¬ bI true = 0 by decide)]
          have v1 := wdO_st wd hp1n wr11
          rw [hsk1] at v1
          obtain ⟨ud, ed, cd, fd⟩ := tSkW cb lb v1
          rw [ed]
          simp only [ob_q]
          obtain ⟨ue, ee, ce, fe⟩ := tGrp hn 64 3 0 (by decide) (by decide) (by decide) 0 _ _ cd.wk
          rw [show mX9_ors ud = some ue from ee]
          simp only [ob_q]
          have Fe : TLf k u ue := (Fb.tr fd.tl).tr fe.tl
          have m63 : gI ue 63 = gI ua 63 := by rw [fe.m63, fd.m63, fb.m63]
          have m9 : gI ue 9 0 9 = nI k := by rw [fe.2.1 9 (by decide), fd.2.1 9 (by decide), fb.2.1 9 (by decide), a9]
          cases hB : gS B n 64 3 0 (.ok (sk B n (wsE B n p1), c1)) with
          | error e =>
            rw [hB] at ce
            obtain ⟨uf, ef, ff, cf⟩ := tSignS (.error e) (ch := 59) (by decide) ((ce.w (r := 63) (i := k) (z := 3) (x := gI ue 9 0 8) (by decide)).1)
            rw [ef]
            simp only [ob_q]
            exact ⟨_, rfl, (Fe.w.tr (RF.of ff (by decide)).tl).w9, cf.w9 (by decide)⟩
          | ok qc =>
            obtain ⟨p2, c2⟩ := qc
            rw [hB] at ce
            rw [show gI ue 9 0 8 = nI c2.length from ce.2.1.1]
            obtain ⟨uf, ef, cf, ff⟩ := tSgS (ch := 59) (by decide) (ce.w (r := 63) (i := k) (z := 3) (x := nI c2.length) (by decide))
            rw [ef]
            simp only [ob_q]
            have x9 : gI uf 9 0 9 = nI k := by rw [ff.2.1 9 (by decide), gI_r (by decide), m9]
            rw [x9, nI_1]
            refine ⟨_, rfl, (Fe.w.tr ff.tl).w9, cf.w9, gI_eq, fun z hz => ?_⟩
            rw [gI_r (by decide), ff.m63]
            match z, hz with
            | 0, _ => rw [gI_k (by decide), m63]; exact a0
            | 1, _ => rw [gI_k (by decide), m63]; exact a1
            | 2, _ => rw [gI_k (by decide), m63]; exact a2
            | 3, _ => rw [gI_eq]; rfl
        · rw [if_neg q] at wd
          rw [wd, if_neg (show ¬ (none : Option Nat) = some 0 by simp), eq_false_of_ne_true q, if_pos (show bI false = 0 from rfl)]
          simp only [ob_q]
          obtain ⟨uf, ef, cf, ff⟩ := tSgS (ch := 59) (by decide) cb
          rw [ef]
          simp only [ob_q]
          have x9 : gI uf 9 0 9 = nI k := by rw [ff.2.1 9 (by decide), fb.2.1 9 (by decide), a9]
          rw [x9, nI_1]
          refine ⟨_, rfl, (Fb.tr ff.tl).w9, cf.w9, gI_eq, fun z hz => ?_⟩
          rw [gI_r (by decide), ff.m63, fb.m63]
          match z, hz with
          | 0, _ => exact a0
          | 1, _ => exact a1
          | 2, _ => exact a2
          | 3, _ => exact a3
def RRw (R : List LRo) (u : HS) : Prop := gI u 9 0 9 = nI R.length ∧ ∀ z, z < R.length → ∀ j, j < 4 → gI u 63 z j = rJ (R.getD z (0, 0, 0, none)) j
theorem wd10_end {B : Nat → Int32} {n : Nat} : wdO 10 B n n = none := wdO_end wr10
theorem tLawL {B : Nat → Int32} {n : Nat} {w : HS → Option (Int32 × HS)} (hn : n ≤ 400) : ∀ (d fu p : Nat) (u : HS) (R : List LRo) (c : List Int32), R.length + d = 17 → d + 1 < fu → RLs B n 0 0 (.ok (p, c)) u → LexR B n p u → RRw R u → R.length ≤ 16 → ∃ u', mX9_law_L55 w fu u = w u' ∧ Fr [61, 63] [4, 5, 6, 7, 8, 9] u u' ∧ match lwS B n d p R c with | .ok (R', c') => gI u' 9 0 6 = 0 ∧ gI u' 9 0 7 = -1 ∧ RRw R' u' ∧ RD (some c') u' | .error (κ, q) => gI u' 9 0 6 = κ ∧ gI u' 9 0 7 = nI q := by
  intro d
  induction d with
  | zero => intro fu p u R c h1 _ _ _ _ h3; omega
  | succ d ih =>
    intro fu p u R c h1 h2 h l hR hR16
    obtain ⟨z, rfl⟩ : ∃ z, fu = z + 1 + 1 := ⟨fu - 2, by omega⟩
    have hpn := l.2.2.2.1
    rw [mX9_law_L55.eq_2, if_pos h.1.2.1, l.1, l.2.2.1]
    by_cases c0 : p = n
    · subst c0
      rw [if_pos (nI_le (Nat.le_refl _) (by omega))]
      refine ⟨u, rfl, Fr.rf, ?_⟩
      unfold lwS
      simp only [wd10_end, if_true]
      exact ⟨h.1.2.1, h.1.2.2, hR, h.2.1⟩
    · rw [if_neg (nI_ge (show p < n by omega) (by omega))]
      obtain ⟨u1, e1, f1, g1⟩ := tLawC hn h l hR.1 hR16
      rw [e1]
      simp only [ob_q]
      have fin : ∀ e : Int32 × Nat, RPs B n (.error e) u1 → ∃ u', ((mX9_blanks u1).bind fun u158 => mX9_law_L55 w (z + 1) u158) = w u' ∧ Fr [61, 63] [4, 5, 6, 7, 8, 9] u u' ∧ gI u' 9 0 6 = e.1 ∧ gI u' 9 0 7 = nI e.2 := fun e he => by
        obtain ⟨u2, e2, f2, r2, -⟩ := tBlS (.error e) he
        obtain ⟨-, r0, r6, r7⟩ := r2
        rw [e2]
        simp only [ob_q]
        rw [mX9_law_L55.eq_2, if_neg (by rw [r6]; exact r0)]
        exact ⟨u2, rfl, f1.1.tr (f2.mo (by simp) (by decide)), r6, r7⟩
      unfold lwS
      cases hw : wdO 10 B n p with
      | none =>
        rw [hw] at g1
        simp only [if_neg c0]
        exact fin (1, p) g1
      | some j =>
        rw [hw] at g1
        simp only at g1 ⊢
        by_cases c1 : R.length < 16
        · rw [if_pos c1] at g1
          simp only [if_pos c1]
          cases hS : lcS B n (sk B n (wsE B n p)) c with
          | error e =>
            rw [hS] at g1
            exact fin e g1
          | ok q =>
            rw [hS] at g1
            obtain ⟨r1, n9, rz⟩ := g1
            cases hG : sgB B n q.1 59 with
            | false =>
              simp only [hG, Bool.false_eq_true, if_false]
              rw [show lG B n (.ok (q.1, q.2.2.2)) 59 = .error (1, q.1) from if_neg (by rw [hG]; decide)] at r1
              exact fin (1, q.1) r1.1
            | true =>
              simp only [hG, if_true]
              rw [show lG B n (.ok (q.1, q.2.2.2)) 59 = .ok (sk B n (q.1 + 1), q.2.2.2) from if_pos hG] at r1
              obtain ⟨u2, e2, c2, f2, l2⟩ := tBlL r1
              have R2 : RRw (R ++ [(j, c.length, q.2.1, q.2.2.1)]) u2 := by
                refine ⟨by rw [f2.2.1 9 (by decide), n9, List.length_append]; rfl, fun y hy jj hjj => ?_⟩
                rw [List.length_append] at hy
                have hy : y < R.length + 1 := hy
                rw [f2.m63]
                by_cases e : y = R.length
                · subst e
                  rw [getD_apN]
                  exact rz jj hjj
                · rw [getD_apR (show y < R.length by omega), f1.2 y e]
                  exact hR.2 y (by omega) jj hjj
              obtain ⟨u', e', f', m'⟩ := ih (z + 1) _ u2 _ q.2.2.2 (by rw [List.length_append]; show R.length + 1 + d = 17; omega) (by omega) c2 (l2 _ rfl) R2 (by rw [List.length_append]; show R.length + 1 ≤ 16; omega)
              rw [e2]
              exact ⟨u', e', (f1.1.tr (Fr.mo f2 (by decide) (by decide))).tr f', m'⟩
        · rw [if_neg c1] at g1
          simp only [if_neg c1]
          exact fin (3, p) g1
