/-! ===== the reference reads a law: its state ===== -/
def RD (o : Option (List Int32)) (u : HS) : Prop := match o with
  | some c => gI u 9 0 8 = nI c.length ∧ ∀ j, j < c.length → gI u 61 0 j = c.getD j 0
  | none => True
def RLs (B : Nat → Int32) (n k o : Nat) (s : LSt) (u : HS) : Prop := RPs B n (lPl s) u ∧ RD (lCd s) u ∧ ∀ pc, s = .ok pc → pc.2.length + k ≤ pc.1 ∧ gI u 9 0 5 = nI o
def RF (u v : HS) : Prop := Fr [61] [4, 5, 6, 7, 8] u v
theorem RPs.le {B : Nat → Int32} {n p : Nat} {u : HS} (h : RPs B n (.ok p) u) : p ≤ n ∧ n ≤ 400 ∧ sk B n p = p := by
  obtain ⟨⟨p', l, hs⟩, -⟩ := h
  exact ⟨by rw [← hs]; exact (sk_le l.2.2.2.1).2, l.2.1, sk_of l.2.2.2.1 hs⟩
theorem RF.of {K : List Nat} {u v : HS} (h : Fr [] K u v) (hK : ∀ k, k ∈ K → k ∈ [4, 5, 6, 7, 8]) : RF u v := h.mo (by simp) hK
theorem RLs.to {B : Nat → Int32} {n k k' o : Nat} {s s' : LSt} {K : List Nat} {u u' : HS} (h : RLs B n k o s u) (F : Fr [] K u u') (hK : 5 ∉ K ∧ 8 ∉ K) (hc : RPs B n (lPl s') u') (hs : ∀ pc, s' = .ok pc → ∃ p, s = .ok (p, pc.2) ∧ pc.2.length + k' ≤ pc.1) : RLs B n k' o s' u' := by
  obtain ⟨h2, h3, h4⟩ := h
  refine ⟨hc, ?_, fun pc hpc => by obtain ⟨p, q1, q⟩ := hs pc hpc; exact ⟨q, by rw [F.2.1 5 hK.1]; exact (h4 _ q1).2⟩⟩
  cases s' with
  | ok pc =>
    obtain ⟨p, e, -⟩ := hs pc rfl
    subst e
    unfold RD lCd
    simp only
    rw [F.2.1 8 hK.2, F.1 61 (by simp) (by decide)]
    exact h3
  | error e => trivial
theorem RLs.st {B : Nat → Int32} {n k o : Nat} {K : List Nat} {s : LSt} {u u' : HS} (h : RLs B n k o s u) (F : Fr [] K u u') (hK : 5 ∉ K ∧ 8 ∉ K) (hc : RPs B n (lPl s) u') : RLs B n k o s u' :=
  h.to F hK hc fun pc hpc => ⟨pc.1, hpc, (h.2.2 _ hpc).1⟩
theorem RLs.er {B : Nat → Int32} {n k o : Nat} {e : Int32 × Nat} {u : HS} (hc : RPs B n (.error e) u) : RLs B n k o (.error e) u := ⟨hc, trivial, fun pc hpc => by cases hpc⟩
theorem RLs.adv {B : Nat → Int32} {n k o q : Nat} {K : List Nat} {p : Nat} {c : List Int32} {u u' : HS} (h : RLs B n k o (.ok (p, c)) u) (F : Fr [] K u u') (hK : 5 ∉ K ∧ 8 ∉ K) (hc : RPs B n (.ok q) u') (hq : p + 1 ≤ q) : RLs B n (k + 1) o (.ok (q, c)) u' := by
  refine h.to F hK hc fun pc hpc => ?_
  injection hpc with hpc
  have := (h.2.2 _ rfl).1
  simp only at this
  rw [← hpc]
  exact ⟨p, rfl, by simp only; omega⟩
theorem tTells {B : Nat → Int32} {n k o : Nat} {s : LSt} {u : HS} (h : RLs B n (k + 1) o s u) (x : Int32) : ∃ u', mX9_tells u x = some u' ∧ RLs B n k o (lE x s) u' ∧ RF u u' := by
  obtain ⟨h2, h3, h4⟩ := h
  unfold mX9_tells
  cases s with
  | error e =>
    have h2' := h2
    obtain ⟨-, h0, h6, -⟩ := h2
    rw [if_neg (by rw [h6]; exact h0)]
    exact ⟨u, rfl, ⟨h2', trivial, fun pc hpc => by cases hpc⟩, Fr.rf⟩
  | ok pc =>
    obtain ⟨p, c⟩ := pc
    have hp := h2.le
    have hp1 : p ≤ n := hp.1
    obtain ⟨hb, h5⟩ := h4 _ rfl
    simp only at hb
    have g1 : gI u 9 0 8 = nI c.length := h3.1
    have g2 : ∀ j, j < c.length → gI u 61 0 j = c.getD j 0 := h3.2
    rw [if_pos h2.2.1, g1, ck_nI (show c.length < 500 by omega) (by decide)]
    simp only [ob_q, bd_q, gI_r (show 9 ≠ 61 by decide), g1, nI_1]
    refine ⟨_, rfl, ⟨(h2.w (by decide) (by decide)).w9 (by decide), ⟨?_, fun j hj => ?_⟩, fun pc hpc => ?_⟩, (Fr.rf.sI (by decide) (by decide)).w9 (by decide)⟩
    · show _ = nI (c ++ [x]).length
      rw [gI_eq, List.length_append]; rfl
    · have hj : j < (c ++ [x]).length := hj
      show _ = (c ++ [x]).getD j 0
      rw [gI_r (by decide), List.getD_eq_getElem?_getD]
      by_cases e : j = c.length
      · rw [e, gI_eq, List.getElem?_append_right (by omega), Nat.sub_self]; rfl
      · have : j < c.length := by
          rw [List.length_append] at hj
          have : ([x] : List Int32).length = 1 := rfl
          omega
        rw [gI_k e, g2 j this, List.getElem?_append_left this, List.getD_eq_getElem?_getD]
    · injection hpc with hpc
      rw [← hpc, List.length_append, gI_k (by decide), gI_r (by decide)]
      exact ⟨by show c.length + 1 + k ≤ p; omega, h5⟩
def SubR (B : Nat → Int32) (n : Nat) (g : HS → Option HS) (o : Nat) (f : LSt → LSt) : Prop := ∀ k s u, RLs B n k o s u → ∃ u', g u = some u' ∧ RLs B n k o (f s) u' ∧ RF u u'
theorem tSgS {B : Nat → Int32} {n k o : Nat} {ch : Int32} {s : LSt} {u : HS} (hch : ch ≠ -1) (h : RLs B n k o s u) : ∃ u', mX9_sign u ch = some u' ∧ RLs B n k o (lG B n s ch) u' ∧ RF u u' := by
  obtain ⟨u', e, f, c⟩ := tSignS (lPl s) hch h.1
  rw [← lPl_G] at c
  refine ⟨u', e, h.to f (by decide) c (fun pc hpc => ?_), RF.of f (by decide)⟩
  obtain ⟨p, g1, g2, g3⟩ := lG_ok hpc
  refine ⟨p, g1, ?_⟩
  have := (h.2.2 _ g1).1
  simp only at this
  have hp := h.1
  rw [g1] at hp
  have hp' := hp.le
  have s1 := sgB_in g2
  rw [hp'.2.2] at s1
  have l := sk_le (B := B) (show p + 1 ≤ n by omega)
  omega
/-- brackets open and close -/
theorem tOpN {B : Nat → Int32} {n k o b p : Nat} {c : List Int32} {u : HS} (ho : o < 6) (hb : 1 ≤ b) (h : RLs B n k o (.ok (p, c)) u) (l : LexR B n p u) (hbn : p + b ≤ n) : ∃ u', mX9_opens u (nI b) = some u' ∧ RLs B n (k + 1) (o + 1) (.ok (sk B n (p + b), c)) u' ∧ RF u u' := by
  obtain ⟨h2, h3, h4⟩ := h
  obtain ⟨hk, h5⟩ := h4 _ rfl
  simp only at hk
  unfold mX9_opens
  rw [h5, if_neg (show ¬ nI o = 6 from fun q => by have := (nI_eq (b := 6) (by omega) (by decide)).mp q; omega)]
  simp only [ob_q, bd_q, h5, nI_1, gI_k (show 4 ≠ 5 by decide), l.2.2.1, nI_add]
  have F : Fr [] [4, 5] u (wI (wI u 9 0 5 (nI (o + 1))) 9 0 4 (nI (p + b))) := (Fr.rf.w9 (by decide)).w9 (by decide)
  have l' : LexR B n (p + b) (wI (wI u 9 0 5 (nI (o + 1))) 9 0 4 (nI (p + b))) := (l.k (by decide) (by decide)).mv hbn
  refine ⟨_, rfl, ⟨⟨⟨p + b, l', rfl⟩, by rw [F.2.1 6 (by decide)]; exact h2.2.1, by rw [F.2.1 7 (by decide)]; exact h2.2.2⟩, ?_, fun pc hpc => ?_⟩, RF.of F (by decide)⟩
  · unfold RD lCd
    simp only
    rw [F.2.1 8 (by decide), F.1 61 (by simp) (by decide)]
    exact h3
  · injection hpc with hpc
    rw [← hpc]
    have := (sk_le (B := B) hbn).1
    exact ⟨by simp only; omega, by rw [gI_k (by decide), gI_eq]⟩
theorem tOpY {B : Nat → Int32} {n k o b p : Nat} {c : List Int32} {u : HS} (ho : o = 6) (hb : b ≤ 3) (h : RLs B n k o (.ok (p, c)) u) (l : LexR B n p u) : ∃ u', mX9_opens u (nI b) = some u' ∧ RPs B n (.error (3, p)) u' ∧ RF u u' := by
  obtain ⟨h2, h3, h4⟩ := h
  obtain ⟨hk, h5⟩ := h4 _ rfl
  have hpn := l.2.2.2.1
  unfold mX9_opens
  rw [h5, if_pos (show nI o = 6 by rw [ho]; rfl), l.2.2.1]
  obtain ⟨u1, e1, f1, b1, -⟩ := rWrong (u := u) 3 (nI p)
  obtain ⟨b6, b7⟩ := b1 h2.2.1
  rw [e1]
  simp only [ob_q, bd_q, gI_k (show 4 ≠ 5 by decide)]
  rw [f1.2.1 5 (by decide), h5, f1.2.1 4 (by decide), l.2.2.1, nI_add]
  have F : Fr [] [4, 5, 6, 7] u (wI (wI u1 9 0 5 (nI o + 1)) 9 0 4 (nI (p + b))) := ((f1.mo (by simp) (by decide)).w9 (by decide)).w9 (by decide)
  refine ⟨_, rfl, ⟨⟨p + b, by rw [F.2.1 2 (by decide)]; exact l.1, l.2.1, gI_eq, by omega, fun k hk => by rw [F.1 60 (by simp) (by decide)]; exact l.2.2.2.2 k hk⟩, show (3 : Int32) ≠ 0 by decide, by rw [gI_k (by decide), gI_k (by decide)]; exact b6, by rw [gI_k (by decide), gI_k (by decide)]; exact b7⟩, RF.of F (by decide)⟩
theorem tClose {B : Nat → Int32} {n k o : Nat} {s : LSt} {u : HS} (h : RLs B n k (o + 1) s u) : RLs B n k o s (wI u 9 0 5 (gI u 9 0 5 - 1)) ∧ RF u (wI u 9 0 5 (gI u 9 0 5 - 1)) := by
  obtain ⟨h2, h3, h4⟩ := h
  refine ⟨⟨h2.w9 (by decide), ?_, fun pc hpc => ?_⟩, Fr.rf.w9 (by decide)⟩
  · cases s with
    | error e => trivial
    | ok pc =>
      unfold RD lCd
      simp only
      rw [gI_k (by decide), gI_r (by decide)]
      exact h3
  · obtain ⟨a, b⟩ := h4 pc hpc
    exact ⟨a, by rw [gI_eq, b, nI_pred]⟩
theorem tCloseE {B : Nat → Int32} {n : Nat} {s : PE Nat} {u : HS} {x : Int32} (h : RPs B n s u) : RPs B n s (wI u 9 0 5 x) := h.w9 (by decide)
/-- blanks: the place is exact -/
theorem tBlL {B : Nat → Int32} {n k o : Nat} {s : LSt} {u : HS} (h : RLs B n k o s u) : ∃ u', mX9_blanks u = some u' ∧ RLs B n k o s u' ∧ RF u u' ∧ ∀ pc, s = .ok pc → LexR B n pc.1 u' := by
  obtain ⟨u', e, f, c, l⟩ := tBlS (lPl s) h.1
  refine ⟨u', e, h.st f (by decide) c, RF.of f (by decide), fun pc hpc => l pc.1 (by rw [hpc]; rfl)⟩
/-- is it this word -/
theorem tIsW {B : Nat → Int32} {n k o p : Nat} {c : List Int32} {u : HS} {a1 a2 a3 a4 a5 a6 : Int32} {w : List Int32} (hW : mX9_word a1 a2 a3 a4 a5 a6 = some (nI (vN (wdV w) w.length))) (hw : w.length ≤ 6) (ha : ∀ j, j < w.length → isAz (w.getD j 0) = true) (h : RLs B n k o (.ok (p, c)) u) : ∃ u', mX9_isWord u a1 a2 a3 a4 a5 a6 = some (bI (eqW B p (wsE B n p - p) w), u') ∧ LexR B n p u' ∧ RLs B n k o (.ok (p, c)) u' ∧ RF u u' := by
  have hp := h.1.le
  have hp1 : p ≤ n := hp.1
  have hsk : sk B n p = p := hp.2.2
  obtain ⟨⟨p', l, hs⟩, h6, h7⟩ := h.1
  have hs' : sk B n p' = p := hs
  obtain ⟨u', e, l', f⟩ := tIsWord hW l h6
  rw [hs'] at l'
  have hq := wv_eq (B := B) l.2.2.2.1 w hw ha
  rw [hs', wsE_cg (q := p) (by rw [hs', hsk])] at hq
  refine ⟨u', ?_, l', h.st f (by decide) ⟨⟨p, l', hsk⟩, by rw [f.2.1 6 (by decide)]; exact h6, by rw [f.2.1 7 (by decide)]; exact h7⟩, RF.of f (by decide)⟩
  rw [e]
  by_cases z : eqW B p (wsE B n p - p) w = true
  · rw [z, decide_eq_true (hq.mpr z)]
  · rw [eq_false_of_ne_true z, decide_eq_false (fun y => z (hq.mp y))]
theorem tIsWE {u : HS} {a1 a2 a3 a4 a5 a6 : Int32} (h6 : gI u 9 0 6 ≠ 0) : mX9_isWord u a1 a2 a3 a4 a5 a6 = some (0, u) := by
  unfold mX9_isWord
  rw [if_neg h6]
theorem wd1e {i : Nat} {w : List Int32} (hw : bytC.getD i [] = w ++ 32 :: []) (h32 : ∀ c ∈ w, c ≠ 32) {B : Nat → Int32} {n p : Nat} (hsk : sk B n p = p) : wdO i B n p = if eqW B p (wsE B n p - p) w = true then some 0 else none := by
  unfold wdO
  rw [hw, wdR_eq _ _ _ h32, hsk]
  rfl
/-- a word is skipped -/
theorem tSkW {B : Nat → Int32} {n k o p : Nat} {c : List Int32} {u : HS} (h : RLs B n k o (.ok (p, c)) u) (l : LexR B n p u) (hlt : p < wsE B n p) : ∃ u', mX9_skipWord u = some u' ∧ RLs B n (k + 1) o (.ok (sk B n (wsE B n p), c)) u' ∧ RF u u' := by
  have hp := h.1.le
  have hp1 : p ≤ n := hp.1
  have hsk : sk B n p = p := hp.2.2
  obtain ⟨u', e, l', f⟩ := tSkipW l
  have ee : wh B isAz n p = wsE B n p := by unfold wsE; rw [hsk]
  rw [ee] at l'
  have w2 := (wsE_le (B := B) hp1).2
  have l2 := sk_le (B := B) w2
  refine ⟨u', e, h.adv f (by decide) ⟨⟨_, l', rfl⟩, by rw [f.2.1 6 (by decide)]; exact h.1.2.1, by rw [f.2.1 7 (by decide)]; exact h.1.2.2⟩ (by omega), RF.of f (by decide)⟩
theorem RF.tr {u v w : HS} (h : RF u v) (h2 : RF v w) : RF u w := Fr.tr h h2
theorem RF.rf {u : HS} : RF u u := Fr.rf
