def bAt (B : Nat → Int32) (n p : Nat) : Int32 := if p < n then B p else -1
theorem rAt {B : Nat → Int32} {n p : Nat} {u : HS} (h : LexR B n p u) : mX9_byteAt u (gI u 9 0 4) = some (bAt B n p) := by rw [h.2.2.1, rByte h h.2.2.2.1]; rfl
theorem sgb {B : Nat → Int32} {n p : Nat} {ch : Int32} (hch : ch ≠ -1) (hsk : sk B n p = p) : (bAt B n p = ch) ↔ sgB B n p ch = true := by
  unfold bAt sgB
  rw [hsk]
  by_cases c : p < n
  · rw [if_pos c, decide_eq_true c, Bool.true_and, decide_eq_true_eq]
  · rw [if_neg c, decide_eq_false c, Bool.false_and]
    exact ⟨fun q => absurd q (Ne.symm hch), fun q => by cases q⟩
theorem sg2 {i : Nat} {a b : Int32} (hi : bytC.getD i [] = [a, b]) {B : Nat → Int32} {n p : Nat} (hsk : sk B n p = p) (ha : a ≠ -1) (hb : b ≠ -1) : sgO i B n p = if bAt B n p = a then some 0 else if bAt B n p = b then some 1 else none := by
  unfold sgO bAt
  rw [hi, hsk]
  by_cases c : p < n
  · rw [if_pos c, if_pos c]
    show (List.findIdx? (fun c => decide (B p = c)) [a, b]) = _
    by_cases d : B p = a
    · simp [d, List.findIdx?_cons]
    · by_cases e : B p = b
      · simp [d, e, List.findIdx?_cons]
      · simp [d, e, List.findIdx?_cons]
  · rw [if_neg c, if_neg c, if_neg (Ne.symm ha), if_neg (Ne.symm hb)]
theorem sg3 {i : Nat} {a b d : Int32} (hi : bytC.getD i [] = [a, b, d]) {B : Nat → Int32} {n p : Nat} (hsk : sk B n p = p) (ha : a ≠ -1) (hb : b ≠ -1) (hd : d ≠ -1) : sgO i B n p = if bAt B n p = a then some 0 else if bAt B n p = b then some 1 else if bAt B n p = d then some 2 else none := by
  unfold sgO bAt
  rw [hi, hsk]
  by_cases c : p < n
  · rw [if_pos c, if_pos c]
    show (List.findIdx? (fun c => decide (B p = c)) [a, b, d]) = _
    rw [List.findIdx?_cons, List.findIdx?_cons, List.findIdx?_cons, List.findIdx?_nil]
    by_cases q1 : B p = a
    · rw [decide_eq_true q1, if_pos rfl, if_pos q1]
    · rw [decide_eq_false q1, if_neg (by decide), if_neg q1]
      by_cases q2 : B p = b
      · rw [decide_eq_true q2, if_pos rfl, if_pos q2]; rfl
      · rw [decide_eq_false q2, if_neg (by decide), if_neg q2]
        by_cases q3 : B p = d
        · rw [decide_eq_true q3, if_pos rfl, if_pos q3]; rfl
        · rw [decide_eq_false q3, if_neg (by decide), if_neg q3]; rfl
  · rw [if_neg c, if_neg c, if_neg (Ne.symm ha), if_neg (Ne.symm hb), if_neg (Ne.symm hd)]
theorem bAt_in {B : Nat → Int32} {n p : Nat} {a : Int32} (ha : a ≠ -1) (h : bAt B n p = a) : p < n := by
  unfold bAt at h
  by_cases c : p < n
  · exact c
  · rw [if_neg c] at h; exact absurd h.symm ha
theorem tAdv {B : Nat → Int32} {n k o p : Nat} {c : List Int32} {u : HS} (h : RLs B n k o (.ok (p, c)) u) (l : LexR B n p u) (hp : p < n) : RLs B n (k + 1) o (.ok (sk B n (p + 1), c)) (wI u 9 0 4 (gI u 9 0 4 + 1)) ∧ RF u (wI u 9 0 4 (gI u 9 0 4 + 1)) := by
  have F : Fr [] [4] u (wI u 9 0 4 (nI (p + 1))) := Fr.rf.w9 (by decide)
  rw [l.2.2.1, nI_1]
  have l2 := sk_le (B := B) (show p + 1 ≤ n by omega)
  exact ⟨h.adv F (by decide) ⟨⟨p + 1, l.mv (by omega), rfl⟩, by rw [gI_k (by decide)]; exact h.1.2.1, by rw [gI_k (by decide)]; exact h.1.2.2⟩ l2.1, RF.of F (by decide)⟩
/-- what follows a word of the two, or none -/
def tUJ (g : HS → Option HS) (x : Int32) (u : HS) : Option HS :=
  ((if x = 0 then some u else (mX9_skipWord u).bind fun u147 => some u147 : Option HS)).bind fun u119 =>
  (mX9_blanks u119).bind fun u122 =>
  (mX9_byteAt u122 (gI u122 9 0 4)).bind fun x124 =>
  if x124 = 40 then ((mX9_opens u122 1).bind fun u127 =>
    (g u127).bind fun u129 =>
    ((if x = 0 then some u129 else (mX9_sign u129 44).bind fun u140 => (g u140).bind fun u142 => some u142 : Option HS)).bind fun u130 =>
    (mX9_sign u130 41).bind fun u133 =>
    if x = 0 then some (wI u133 9 0 5 (gI u133 9 0 5 - 1)) else (mX9_tells (wI u133 9 0 5 (gI u133 9 0 5 - 1)) x).bind fun u137 => some u137)
  else (mX9_wrongAt u122 1 (gI u122 9 0 4)).bind fun u144 => some u144
theorem tUnit_eq {g0 g1 g2 g3 g4 g5 : HS → Option HS} {u : HS} : mX9_unit_b g0 g1 g2 g3 g4 g5 u = if gI u 9 0 6 = 0 then (mX9_blanks u).bind fun u103 => (mX9_byteAt u103 (gI u103 9 0 4)).bind fun x105 => (mX9_isDigit x105).bind fun x107 => if x107 = 0 then (mX9_nameHere u103).bind fun z109 => if z109.1 = -1 then (mX9_isWord z109.2 12 5 1 19 20 0).bind fun z113 => if z113.1 = 0 then (mX9_isWord z113.2 13 15 19 20 0 0).bind fun z149 => if z149.1 = 0 then tUJ g2 0 z149.2 else tUJ g2 10025 z149.2 else tUJ g2 10024 z113.2 else (mX9_skipWord z109.2).bind fun u154 => (mX9_tells u154 (10000 + z109.1)).bind fun u156 => some u156 else (mX9_number u103 0 9999 (-1)).bind fun z157 => (mX9_tells z157.2 z157.1).bind fun u161 => some u161 else some u := nrfl rfl
theorem RLs.wk {B : Nat → Int32} {n k o : Nat} {s : LSt} {u : HS} (h : RLs B n (k + 1) o s u) : RLs B n k o s u := ⟨h.1, h.2.1, fun pc hpc => by obtain ⟨a, b⟩ := h.2.2 pc hpc; exact ⟨by omega, b⟩⟩
/-- a reader does nothing behind a fault -/
def ErR (B : Nat → Int32) (n : Nat) (g : HS → Option HS) : Prop := ∀ u e, RPs B n (.error e) u → ∃ u', g u = some u' ∧ RPs B n (.error e) u' ∧ RF u u'
theorem tUJ_ok {B : Nat → Int32} {n k o p : Nat} {c : List Int32} {u : HS} {g : HS → Option HS} {f : LSt → LSt} (ho : o ≤ 6) (hE : ErR B n g) (hg : o < 6 → SubR B n g (o + 1) f) (pr : Option Nat) (hpr : ∀ j, pr = some j → j < 2) (hlt : pr.isSome = true → p < wsE B n p) (h : RLs B n k o (.ok (p, c)) u) (l : LexR B n p u) : ∃ u', tUJ g (pr.elim 0 fun j => nI (10024 + j)) u = some u' ∧ RLs B n k o (unTB B n f o pr (if pr.isSome = true then sk B n (wsE B n p) else p) c) u' ∧ RF u u' := by
  obtain ⟨p1, hp1⟩ : ∃ p1, p1 = (if pr.isSome = true then sk B n (wsE B n p) else p) := ⟨_, rfl⟩
  have first : ∃ u2, ((if (pr.elim 0 fun j => nI (10024 + j)) = 0 then some u else (mX9_skipWord u).bind fun u147 => some u147 : Option HS)).bind (fun u119 => mX9_blanks u119) = some u2 ∧ RLs B n k o (.ok (p1, c)) u2 ∧ RF u u2 ∧ LexR B n p1 u2 := by
    cases pr with
    | none =>
      rw [if_pos (show (none : Option Nat).elim 0 (fun j => nI (10024 + j)) = 0 from rfl)]
      obtain ⟨u2, e2, c2, f2, l2⟩ := tBlL h
      have : p1 = p := hp1
      rw [this]
      exact ⟨u2, e2, c2, f2, l2 _ rfl⟩
    | some j =>
      have hj := hpr j rfl
      rw [if_neg (show ¬ (some j).elim 0 (fun j => nI (10024 + j)) = 0 from nI_ne0 (by omega) (by omega))]
      obtain ⟨u1, e1, c1, f1⟩ := tSkW h l (hlt rfl)
      obtain ⟨u2, e2, c2, f2, l2⟩ := tBlL c1.wk
      have : p1 = sk B n (wsE B n p) := hp1
      rw [this, e1]
      exact ⟨u2, e2, c2, f1.tr f2, l2 _ rfl⟩
  obtain ⟨u2, e2, c2, f2, l2⟩ := first
  have hp := c2.1.le
  have hsk : sk B n p1 = p1 := hp.2.2
  rw [← hp1]
  -- the text behind the blanks
  have hT : tUJ g (pr.elim 0 fun j => nI (10024 + j)) u = ((mX9_byteAt u2 (gI u2 9 0 4)).bind fun x124 =>
    if x124 = 40 then ((mX9_opens u2 1).bind fun u127 => (g u127).bind fun u129 => ((if (pr.elim 0 fun j => nI (10024 + j)) = 0 then some u129 else (mX9_sign u129 44).bind fun u140 => (g u140).bind fun u142 => some u142 : Option HS)).bind fun u130 => (mX9_sign u130 41).bind fun u133 => if (pr.elim 0 fun j => nI (10024 + j)) = 0 then some (wI u133 9 0 5 (gI u133 9 0 5 - 1)) else (mX9_tells (wI u133 9 0 5 (gI u133 9 0 5 - 1)) (pr.elim 0 fun j => nI (10024 + j))).bind fun u137 => some u137)
    else (mX9_wrongAt u2 1 (gI u2 9 0 4)).bind fun u144 => some u144) := by
    unfold tUJ
    obtain ⟨u1, e1, e1'⟩ := ob e2
    rw [e1]
    simp only [ob_q]
    rw [e1']
    simp only [ob_q]
  rw [hT, rAt l2]
  simp only [ob_q]
  unfold unTB
  by_cases hs : sgB B n p1 40 = true
  · have hb : bAt B n p1 = 40 := (sgb (by decide) hsk).mpr hs
    have hlt1 := bAt_in (by decide) hb
    rw [if_pos hb, if_pos hs]
    by_cases c6 : o < 6
    · rw [if_pos c6]
      obtain ⟨u3, e3, c3, f3⟩ := tOpN (b := 1) c6 (Nat.le_refl 1) c2 l2 (by omega)
      rw [show mX9_opens u2 1 = some u3 from e3]
      simp only [ob_q]
      obtain ⟨u4, e4, c4, f4⟩ := hg c6 _ _ _ c3
      rw [e4]
      simp only [ob_q]
      cases pr with
      | none =>
        rw [if_pos (show (none : Option Nat).elim 0 (fun j => nI (10024 + j)) = 0 from rfl)]
        simp only [ob_q]
        obtain ⟨u5, e5, c5, f5⟩ := tSgS (ch := 41) (by decide) c4
        rw [e5]
        simp only [ob_q]
        rw [if_pos (show (none : Option Nat).elim 0 (fun j => nI (10024 + j)) = 0 from rfl)]
        obtain ⟨c6', f6⟩ := tClose c5
        exact ⟨_, rfl, c6'.wk, (((f2.tr f3).tr f4).tr f5).tr f6⟩
      | some j =>
        have hj := hpr j rfl
        have hn : ¬ (some j).elim 0 (fun j => nI (10024 + j)) = 0 := nI_ne0 (by omega) (by omega)
        rw [if_neg hn]
        obtain ⟨u5, e5, c5, f5⟩ := tSgS (ch := 44) (by decide) c4
        rw [e5]
        simp only [ob_q]
        obtain ⟨u6, e6, c6', f6⟩ := hg c6 _ _ _ c5
        rw [e6]
        simp only [ob_q]
        obtain ⟨u7, e7, c7, f7⟩ := tSgS (ch := 41) (by decide) c6'
        rw [e7]
        simp only [ob_q]
        rw [if_neg hn]
        obtain ⟨c8, f8⟩ := tClose c7
        obtain ⟨u9, e9, c9, f9⟩ := tTells c8 (nI (10024 + j))
        rw [show mX9_tells (wI u7 9 0 5 (gI u7 9 0 5 - 1)) ((some j).elim 0 fun j => nI (10024 + j)) = some u9 from e9]
        exact ⟨u9, rfl, c9, (((((((f2.tr f3).tr f4).tr f5).tr f6).tr f7).tr f8).tr f9)⟩
    · rw [if_neg c6]
      obtain ⟨u3, e3, c3, f3⟩ := tOpY (b := 1) (show o = 6 by omega) (by decide) c2 l2
      rw [show mX9_opens u2 1 = some u3 from e3]
      simp only [ob_q]
      obtain ⟨u4, e4, c4, f4⟩ := hE u3 _ c3
      rw [e4]
      simp only [ob_q]
      have second : ∃ u5, ((if (pr.elim 0 fun j => nI (10024 + j)) = 0 then some u4 else (mX9_sign u4 44).bind fun u140 => (g u140).bind fun u142 => some u142 : Option HS)) = some u5 ∧ RPs B n (.error (3, p1)) u5 ∧ RF u4 u5 := by
        by_cases z : (pr.elim 0 fun j => nI (10024 + j)) = 0
        · rw [if_pos z]; exact ⟨u4, rfl, c4, RF.rf⟩
        · rw [if_neg z]
          obtain ⟨u5, e5, f5, c5⟩ := tSignS (.error (3, p1)) (ch := 44) (by decide) c4
          obtain ⟨u6, e6, c6', f6⟩ := hE u5 _ c5
          rw [e5]
          simp only [ob_q]
          rw [e6]
          exact ⟨u6, rfl, c6', (RF.of f5 (by decide)).tr f6⟩
      obtain ⟨u5, e5, c5, f5⟩ := second
      rw [e5]
      simp only [ob_q]
      obtain ⟨u6, e6, f6, c6'⟩ := tSignS (.error (3, p1)) (ch := 41) (by decide) c5
      rw [e6]
      simp only [ob_q]
      have c7 : RPs B n (.error (3, p1)) (wI u6 9 0 5 (gI u6 9 0 5 - 1)) := tCloseE c6'
      have f7 : RF u6 (wI u6 9 0 5 (gI u6 9 0 5 - 1)) := Fr.rf.w9 (by decide)
      have FF := ((((f2.tr f3).tr f4).tr f5).tr (RF.of f6 (by decide))).tr f7
      by_cases z : (pr.elim 0 fun j => nI (10024 + j)) = 0
      · rw [if_pos z]; exact ⟨_, rfl, RLs.er c7, FF⟩
      · rw [if_neg z]
        obtain ⟨u8, e8, c8, f8⟩ := tTells (k := k) (o := o) (s := .error (3, p1)) (RLs.er c7) (pr.elim 0 fun j => nI (10024 + j))
        rw [e8]
        exact ⟨u8, rfl, c8, FF.tr f8⟩
  · have hb : ¬ bAt B n p1 = 40 := fun q => hs ((sgb (by decide) hsk).mp q)
    rw [if_neg hb, if_neg hs, l2.2.2.1]
    obtain ⟨u3, e3, f3, b3, -⟩ := rWrong (u := u2) 1 (nI p1)
    obtain ⟨b6, b7⟩ := b3 c2.1.2.1
    rw [e3]
    exact ⟨u3, rfl, RLs.er ⟨⟨p1, (l2.fr f3 (by simp) (by decide) (by decide)).lx⟩, show (1 : Int32) ≠ 0 by decide, b6, b7⟩, f2.tr (RF.of f3 (by decide))⟩
theorem tUnit {B : Nat → Int32} {n o : Nat} {g0 g1 g2 g3 g4 g5 : HS → Option HS} {f : LSt → LSt} (ho : o ≤ 6) (hE : ErR B n g2) (hg : o < 6 → SubR B n g2 (o + 1) f) : SubR B n (mX9_unit_b g0 g1 g2 g3 g4 g5) o (unT B n f o) := by
  intro k s u h
  rw [tUnit_eq]
  cases s with
  | error e =>
    obtain ⟨-, h0, h6, -⟩ := h.1
    rw [if_neg (by rw [h6]; exact h0)]
    exact ⟨u, rfl, h, RF.rf⟩
  | ok pc =>
    obtain ⟨p, c⟩ := pc
    rw [if_pos h.1.2.1]
    obtain ⟨u1, e1, c1, f1, l1⟩ := tBlL h
    have l1 : LexR B n p u1 := l1 _ rfl
    have hp := c1.1.le
    have hp1 : p ≤ n := hp.1
    have hsk : sk B n p = p := hp.2.2
    rw [e1]
    simp only [ob_q]
    rw [rAt l1]
    simp only [ob_q, rDig]
    simp only [unT]
    by_cases cd : p < n ∧ isDg (B p) = true
    · rw [if_pos cd]
      have hb : isDg (bAt B n p) = true := by unfold bAt; rw [if_pos cd.1]; exact cd.2
      rw [hb, if_neg (show ¬ bI true = 0 by decide)]
      obtain ⟨x, u2, e2, f2, c2, w2⟩ := tNumS (.ok ([], p)) (fun _ => (0, 9999, -1)) 0 9999 (-1) (show RPs B n (.ok p) u1 from c1.1) (fun _ _ _ => ⟨rfl, by decide⟩)
      rw [e2]
      simp only [ob_q]
      have F2 := f1.tr (RF.of f2 (by decide))
      cases hN : numO 100000 B n p 0 9999 (-1) with
      | error e =>
        have hst : stN B n (.ok ([], p)) (fun _ => (0, 9999, -1)) = .error e := by simp only [stN, hN]
        rw [hst] at c2
        obtain ⟨u3, e3, c3, f3⟩ := tTells (k := k) (o := o) (s := .error e) (RLs.er c2) x
        rw [e3]
        exact ⟨u3, rfl, c3, F2.tr f3⟩
      | ok Ve =>
        obtain ⟨V, e⟩ := Ve
        have hst : stN B n (.ok ([], p)) (fun _ => (0, 9999, -1)) = .ok ([V], sk B n e) := by simp only [stN, hN]; rfl
        rw [hst] at c2
        obtain ⟨W, b1, b2, -⟩ := w2 [] p rfl _ _ hst
        have hW : V = W := by simpa using b1
        obtain ⟨y1, y2⟩ := numO_e hp1 hN
        rw [hsk] at y2
        have l := sk_le (B := B) y1
        have h2 : RLs B n (k + 1) o (.ok (sk B n e, c)) u2 := c1.adv f2 (by decide) c2 (show p + 1 ≤ sk B n e by omega)
        obtain ⟨u3, e3, c3, f3⟩ := tTells h2 x
        rw [e3]
        refine ⟨u3, rfl, ?_, F2.tr f3⟩
        rw [show x = nI V by rw [b2, hW]] at c3
        exact c3
    · rw [if_neg cd]
      have hb : isDg (bAt B n p) = false := by
        unfold bAt
        by_cases q : p < n
        · rw [if_pos q]; exact eq_false_of_ne_true (fun z => cd ⟨q, z⟩)
        · rw [if_neg q]; decide
      rw [hb, if_pos (show bI false = 0 from rfl)]
      obtain ⟨u2, e2, l2, f2⟩ := tNameHere l1 (show gI u1 9 0 6 = 0 from c1.1.2.1)
      rw [hsk] at l2
      rw [e2]
      simp only [ob_q]
      have h2 : RLs B n k o (.ok (p, c)) u2 := c1.st f2 (by decide) ⟨⟨p, l2, hsk⟩, by rw [f2.2.1 6 (by decide)]; exact c1.1.2.1, by rw [f2.2.1 7 (by decide)]; exact c1.1.2.2⟩
      have F2 := f1.tr (RF.of f2 (by decide))
      cases hw : wdO 14 B n p with
      | some j =>
        have hj := wd14_lt hw
        have w1 := wdO_st hw hp1 wr14
        rw [hsk] at w1
        rw [if_neg (show ¬ (some j).elim (-1) nI = -1 from nI_m1 (by omega))]
        obtain ⟨u3, e3, c3, f3⟩ := tSkW h2 l2 w1
        rw [e3]
        simp only [ob_q]
        obtain ⟨u4, e4, c4, f4⟩ := tTells c3 (10000 + nI j)
        rw [show mX9_tells u3 (10000 + (some j).elim (-1) nI) = some u4 from e4]
        refine ⟨u4, rfl, ?_, (F2.tr f3).tr f4⟩
        rw [show (10000 : Int32) + nI j = nI (10000 + j) from nI_add 10000 j] at c4
        exact c4
      | none =>
        rw [if_pos (show (none : Option Nat).elim (-1) nI = -1 from rfl)]
        have hpr : wdO 15 B n p = if eqW B p (wsE B n p - p) [108, 101, 97, 115, 116] = true then some 0 else if eqW B p (wsE B n p - p) [109, 111, 115, 116] = true then some 1 else none := by unfold wdO; rw [wd15, hsk]
        have hlt : (wdO 15 B n p).isSome = true → p < wsE B n p := fun z => by
          obtain ⟨j, hj⟩ := Option.isSome_iff_exists.mp z
          have := wdO_st hj hp1 wr15
          rw [hsk] at this
          exact this
        obtain ⟨u3, e3, l3, c3, f3⟩ := tIsW (w := [108, 101, 97, 115, 116]) (a1 := 12) (a2 := 5) (a3 := 1) (a4 := 19) (a5 := 20) (a6 := 0) (by decide) (by decide) (by decide) h2
        rw [e3]
        simp only [ob_q]
        by_cases q1 : eqW B p (wsE B n p - p) [108, 101, 97, 115, 116] = true
        · rw [if_pos q1] at hpr
          rw [q1, if_neg (show ¬ bI true = 0 by decide)]
          obtain ⟨u', e', c', f'⟩ := tUJ_ok (g := g2) (f := f) ho hE hg (wdO 15 B n p) (fun j hj => wd15_lt hj) hlt c3 l3
          rw [hpr] at e' c' ⊢
          exact ⟨u', e', c', (F2.tr f3).tr f'⟩
        · rw [if_neg q1] at hpr
          rw [eq_false_of_ne_true q1, if_pos (show bI false = 0 from rfl)]
          obtain ⟨u4, e4, l4, c4, f4⟩ := tIsW (w := [109, 111, 115, 116]) (a1 := 13) (a2 := 15) (a3 := 19) (a4 := 20) (a5 := 0) (a6 := 0) (by decide) (by decide) (by decide) c3
          rw [e4]
          simp only [ob_q]
          obtain ⟨u', e', c', f'⟩ := tUJ_ok (g := g2) (f := f) ho hE hg (wdO 15 B n p) (fun j hj => wd15_lt hj) hlt c4 l4
          by_cases q2 : eqW B p (wsE B n p - p) [109, 111, 115, 116] = true
          · rw [if_pos q2] at hpr
            rw [q2, if_neg (show ¬ bI true = 0 by decide)]
            rw [hpr] at e' c' ⊢
            exact ⟨u', e', c', ((F2.tr f3).tr f4).tr f'⟩
          · rw [if_neg q2] at hpr
            rw [eq_false_of_ne_true q2, if_pos (show bI false = 0 from rfl)]
            rw [hpr] at e' c' ⊢
            exact ⟨u', e', c', ((F2.tr f3).tr f4).tr f'⟩
