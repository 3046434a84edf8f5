/-! ===== a law's text: the grammar ===== -/
abbrev LSt : Type := PE (Nat × List Int32)
def lPl (s : LSt) : PE Nat := match s with
  | .error e => .error e
  | .ok pc => .ok pc.1
def lE (x : Int32) (s : LSt) : LSt := match s with
  | .error e => .error e
  | .ok pc => .ok (pc.1, pc.2 ++ [x])
def lG (B : Nat → Int32) (n : Nat) (s : LSt) (ch : Int32) : LSt := match s with
  | .error e => .error e
  | .ok pc => if sgB B n pc.1 ch = true then .ok (sk B n (pc.1 + 1), pc.2) else .error (1, pc.1)
theorem lPl_G {B : Nat → Int32} {n : Nat} {s : LSt} {ch : Int32} : lPl (lG B n s ch) = stG B n (lPl s) ch := by
  cases s with
  | error e => rfl
  | ok pc =>
    show lPl (if sgB B n pc.1 ch = true then .ok (sk B n (pc.1 + 1), pc.2) else .error (1, pc.1)) = if sgB B n pc.1 ch = true then .ok (sk B n (pc.1 + 1)) else .error (1, pc.1)
    split <;> rfl
theorem lPl_E {x : Int32} {s : LSt} : lPl (lE x s) = lPl s := by cases s <;> rfl
theorem lG_E {B : Nat → Int32} {n : Nat} {s : LSt} {x ch : Int32} : lG B n (lE x s) ch = lE x (lG B n s ch) := by
  cases s with
  | error e => rfl
  | ok pc =>
    show (if sgB B n pc.1 ch = true then .ok (sk B n (pc.1 + 1), pc.2 ++ [x]) else .error (1, pc.1)) = lE x (if sgB B n pc.1 ch = true then .ok (sk B n (pc.1 + 1), pc.2) else .error (1, pc.1))
    split <;> rfl
def opL (tk : Nat → Option (Int32 × Nat)) (sub : LSt → LSt) : Nat → LSt → LSt
  | 0, s => s
  | f + 1, s => match s with
    | .error e => .error e
    | .ok pc => match tk pc.1 with
      | none => .ok pc
      | some xq => opL tk sub f (lE xq.1 (sub (.ok (xq.2, pc.2))))
def tks (B : Nat → Int32) (n i x0 p : Nat) : Option (Int32 × Nat) := (sgO i B n p).map fun j => (nI (x0 + j), sk B n (p + 1))
def tkw (B : Nat → Int32) (n i x0 p : Nat) : Option (Int32 × Nat) := if wdO i B n p = some 0 then some (nI x0, sk B n (wsE B n p)) else none
def unTB (B : Nat → Int32) (n : Nat) (sum1 : LSt → LSt) (o : Nat) (pr : Option Nat) (p1 : Nat) (c : List Int32) : LSt :=
  if sgB B n p1 40 = true then (if o < 6 then (match pr with
    | none => lG B n (sum1 (.ok (sk B n (p1 + 1), c))) 41
    | some j => lE (nI (10024 + j)) (lG B n (sum1 (lG B n (sum1 (.ok (sk B n (p1 + 1), c))) 44)) 41)) else .error (3, p1)) else .error (1, p1)
def unT (B : Nat → Int32) (n : Nat) (sum1 : LSt → LSt) (o : Nat) (s : LSt) : LSt := match s with
  | .error e => .error e
  | .ok pc => if pc.1 < n ∧ isDg (B pc.1) = true then (match numO 100000 B n pc.1 0 9999 (-1) with
      | .error e => .error e
      | .ok Ve => .ok (sk B n Ve.2, pc.2 ++ [nI Ve.1]))
    else match wdO 14 B n pc.1 with
      | some j => .ok (sk B n (wsE B n pc.1), pc.2 ++ [nI (10000 + j)])
      | none => unTB B n sum1 o (wdO 15 B n pc.1) (if (wdO 15 B n pc.1).isSome = true then sk B n (wsE B n pc.1) else pc.1) pc.2
def onT (B : Nat → Int32) (n : Nat) (one1 eith1 sum0 : LSt → LSt) (o : Nat) (s : LSt) : LSt := match s with
  | .error e => .error e
  | .ok pc => if wdO 6 B n pc.1 = some 0 then (if o < 6 then lE 10033 (one1 (.ok (sk B n (wsE B n pc.1), pc.2))) else .error (3, pc.1))
    else if sgB B n pc.1 91 = true then (if o < 6 then lG B n (eith1 (.ok (sk B n (pc.1 + 1), pc.2))) 93 else .error (3, pc.1))
    else match sum0 (.ok pc) with
      | .error e => .error e
      | .ok qc => match sgO 9 B n qc.1 with
        | none => .error (1, qc.1)
        | some j => lE (nI (10030 + j)) (sum0 (.ok (sk B n (qc.1 + 1), qc.2)))
def gS (B : Nat → Int32) (n : Nat) : Nat → Nat → Nat → LSt → LSt
  | 0, _, _, s => s
  | d + 1, w, o, s =>
    if w = 0 then opL (tks B n 12 10020) (gS B n d 1 o) 401 (gS B n d 1 o s)
    else if w = 1 then opL (tks B n 13 10022) (gS B n d 2 o) 401 (gS B n d 2 o s)
    else if w = 2 then unT B n (gS B n d 0 (o + 1)) o s
    else if w = 3 then opL (tkw B n 4 10035) (gS B n d 4 o) 401 (gS B n d 4 o s)
    else if w = 4 then opL (tkw B n 5 10034) (gS B n d 5 o) 401 (gS B n d 5 o s)
    else onT B n (gS B n d 5 (o + 1)) (gS B n d 3 (o + 1)) (gS B n d 0 o) o s
/-- how deep a reader may go -/
def gNd (w o : Nat) : Nat := (6 - o) * 6 + if w = 0 then 3 else if w = 1 then 2 else if w = 2 then 1 else if w = 3 then 6 else if w = 4 then 5 else 4
/-! the class's state -/
def CD (i : Nat) (o : Option (List Int32)) (u : HS) : Prop := match o with
  | some c => gI u 1 i 1 = nI c.length ∧ ∀ j, j < c.length → gI u 32 i j = enc (c.getD j 0)
  | none => ∃ m, m ≤ 400 ∧ gI u 1 i 1 = nI m
def lCd (s : LSt) : Option (List Int32) := match s with
  | .error _ => none
  | .ok pc => some pc.2
def CLs (B : Nat → Int32) (n i k : Nat) (s : LSt) (u : HS) : Prop := gR u 0 = i ∧ CPs B n (lPl s) u ∧ CD i (lCd s) u ∧ ∀ pc, s = .ok pc → pc.2.length + k ≤ pc.1
def LF (i : Nat) (u v : HS) : Prop := (∀ r, r ≠ 5 → r ≠ 1 → r ≠ 32 → gI v r = gI u r) ∧ (∀ r k, (r = 1 ∨ r = 32) → k ≠ i → gI v r k = gI u r k) ∧ (∀ k, k ≠ 1 → gI v 1 i k = gI u 1 i k) ∧ (∀ k, k ∉ [3, 4, 5, 6] → gI v 5 0 k = gI u 5 0 k) ∧ gR v = gR u
theorem LF.rf {i : Nat} {u : HS} : LF i u u := ⟨fun _ _ _ _ => rfl, fun _ _ _ _ => rfl, fun _ _ => rfl, fun _ _ => rfl, rfl⟩
theorem LF.tr {i : Nat} {u v w : HS} (h : LF i u v) (h2 : LF i v w) : LF i u w := ⟨fun r a b c => (h2.1 r a b c).trans (h.1 r a b c), fun r k a b => (h2.2.1 r k a b).trans (h.2.1 r k a b), fun k a => (h2.2.2.1 k a).trans (h.2.2.1 k a), fun k a => (h2.2.2.2.1 k a).trans (h.2.2.2.1 k a), h2.2.2.2.2.trans h.2.2.2.2⟩
theorem FC.lf {i : Nat} {K : List Nat} {u v : HS} (h : FC K u v) (hK : ∀ k, k ∈ K → k ∈ [3, 4, 5, 6]) : LF i u v := ⟨fun r a _ _ => h.1 r a, fun r k a _ => by rw [h.1 r (by omega)], fun k _ => by rw [h.1 1 (by decide)], fun k a => h.2.1 k (fun q => a (hK k q)), h.2.2⟩
theorem CPs.le {B : Nat → Int32} {n p : Nat} {u : HS} (h : CPs B n (.ok p) u) : p ≤ n ∧ n ≤ 400 ∧ sk B n p = p := by
  obtain ⟨⟨p', l, hs⟩, -⟩ := h
  exact ⟨by rw [← hs]; exact (sk_le l.2.2.2.1).2, l.2.1, sk_of l.2.2.2.1 hs⟩
theorem CLs.to {B : Nat → Int32} {n i k k' : Nat} {s s' : LSt} {K : List Nat} {u u' : HS} (h : CLs B n i k s u) (F : FC K u u') (hc : CPs B n (lPl s') u') (hs : ∀ pc, s' = .ok pc → ∃ p, s = .ok (p, pc.2) ∧ pc.2.length + k' ≤ pc.1) : CLs B n i k' s' u' := by
  obtain ⟨h1, h2, h3, h4⟩ := h
  refine ⟨by rw [F.2.2]; exact h1, hc, ?_, fun pc hpc => by obtain ⟨p, -, q⟩ := hs pc hpc; exact q⟩
  have g1 : gI u' 1 = gI u 1 := F.1 1 (by decide)
  have g32 : gI u' 32 = gI u 32 := F.1 32 (by decide)
  cases s' with
  | ok pc =>
    obtain ⟨p, e, -⟩ := hs pc rfl
    subst e
    unfold CD lCd
    simp only
    rw [g1, g32]
    exact h3
  | error e =>
    show ∃ m, m ≤ 400 ∧ gI u' 1 i 1 = nI m
    rw [g1]
    cases s with
    | error e0 => exact h3
    | ok pc =>
      have := h2.le
      have h4' := h4 pc rfl
      exact ⟨pc.2.length, by have : pc.1 ≤ n := this.1; omega, h3.1⟩
/-! what the class takes -/
theorem cTakeS {B : Nat → Int32} {n i p : Nat} {u : HS} (hi : strOk i) (h : CPs B n (.ok p) u) : ∃ u', mX5_takeSign u i = some ((sgO i B n p).elim (-1) nI, u') ∧ FC [3, 4] u u' ∧ CPs B n (.ok (if (sgO i B n p).isSome = true then sk B n (p + 1) else p)) u' ∧ ((sgO i B n p).isSome = true → gI u' 5 0 4 = nI p) := by
  obtain ⟨⟨p', l, hs⟩, h5, h6⟩ := h
  have hsk := sk_of l.2.2.2.1 hs
  have hcg : sk B n p' = sk B n p := by rw [hs, hsk]
  obtain ⟨u', e, f, g⟩ := cTake hi l
  rw [if_pos h5] at e g
  rw [sgO_cg hcg, hs] at g
  rw [sgO_cg hcg] at e
  refine ⟨u', e, f, ⟨?_, by rw [f.2.1 5 (by decide)]; exact h5, by rw [f.2.1 6 (by decide)]; exact h6⟩, g.2⟩
  by_cases c : (sgO i B n p).isSome = true
  · rw [if_pos c] at g
    exact ⟨_, g.1, by rw [if_pos c]⟩
  · rw [if_neg c] at g
    exact ⟨_, g.1, by rw [if_neg c, hsk]⟩
theorem cTakeSE {i : Nat} {u : HS} (h5 : gI u 5 0 5 ≠ 0) : mX5_takeSign u i = some (-1, u) := by
  unfold mX5_takeSign
  rw [if_neg h5]
theorem cTakeWS {B : Nat → Int32} {n i p : Nat} {u : HS} (hi : strOk i) (h : CPs B n (.ok p) u) : ∃ u', mX5_takeWord u i = some ((wdO i B n p).elim (-1) nI, u') ∧ FC [3, 4] u u' ∧ CPs B n (.ok (if (wdO i B n p).isSome = true then sk B n (wsE B n p) else p)) u' ∧ ((wdO i B n p).isSome = true → gI u' 5 0 4 = nI p) := by
  obtain ⟨⟨p', l, hs⟩, h5, h6⟩ := h
  have hsk := sk_of l.2.2.2.1 hs
  have hcg : sk B n p' = sk B n p := by rw [hs, hsk]
  obtain ⟨u', e, f, g⟩ := cTakeW hi l
  rw [if_pos h5] at e g
  rw [wdO_cg hcg, wsE_cg hcg, hs] at g
  rw [wdO_cg hcg] at e
  refine ⟨u', e, f, ⟨?_, by rw [f.2.1 5 (by decide)]; exact h5, by rw [f.2.1 6 (by decide)]; exact h6⟩, g.2⟩
  by_cases c : (wdO i B n p).isSome = true
  · rw [if_pos c] at g
    exact ⟨_, g.1, by rw [if_pos c]⟩
  · rw [if_neg c] at g
    exact ⟨_, g.1, by rw [if_neg c, hsk]⟩
theorem cTakeWE {i : Nat} {u : HS} (h5 : gI u 5 0 5 ≠ 0) : mX5_takeWord u i = some (-1, u) := by
  unfold mX5_takeWord
  rw [if_neg h5]
def stD (i : Nat) (B : Nat → Int32) (n : Nat) (s : PE Nat) : PE Nat := match s with
  | .error e => .error e
  | .ok p => if (sgO i B n p).isSome = true then .ok (sk B n (p + 1)) else .error (1, p)
theorem cDemS {B : Nat → Int32} {n i : Nat} {u : HS} (hi : strOk i) (s : PE Nat) (h : CPs B n s u) : ∃ val u', mX5_demandSign u i = some (val, u') ∧ FC [3, 4, 5, 6] u u' ∧ CPs B n (stD i B n s) u' ∧ (∀ p, s = .ok p → val = (sgO i B n p).elim (-1) nI ∧ ((sgO i B n p).isSome = true → gI u' 5 0 4 = nI p)) ∧ ∀ e, s = .error e → val = -1 := by
  unfold mX5_demandSign
  cases s with
  | error e =>
    have h' := h
    obtain ⟨⟨p', l⟩, h0, h5, h6⟩ := h
    rw [cTakeSE (by rw [h5]; exact h0)]
    simp only [ob_q, bd_q, if_true]
    obtain ⟨u3, e3, f3, -, b3⟩ := cBlame (u := u) 1 (gI u 5 0 3)
    have := b3 (by rw [h5]; exact h0)
    subst this
    rw [e3]
    exact ⟨-1, u3, rfl, FC.rf, h', fun p hp => (by cases hp), fun _ _ => rfl⟩
  | ok p =>
    obtain ⟨u1, e1, f1, c1, t1⟩ := cTakeS hi h
    rw [e1]
    simp only [ob_q, bd_q]
    cases hq : sgO i B n p with
    | none =>
      rw [hq] at c1
      rw [if_neg (by simp)] at c1
      obtain ⟨⟨p', l, hs⟩, h5, h6⟩ := c1
      have hp := h.le
      -- the class stands behind the blanks
      obtain ⟨⟨p0, l0, hs0⟩, h50, -⟩ := h
      obtain ⟨u1', e1', -, g1'⟩ := cTake hi l0
      rw [if_pos h50] at e1' g1'
      have : u1' = u1 := by
        rw [e1] at e1'
        injection e1' with e1'
        injection e1' with _ e1'
        exact e1'.symm
      subst this
      rw [sgO_cg (show sk B n p0 = sk B n p by rw [hs0, hp.2.2]), hq, if_neg (by simp), hs0] at g1'
      obtain ⟨u3, e3, f3, b3, -⟩ := cBlame (u := u1') 1 (nI p)
      obtain ⟨b5, b6⟩ := b3 h5
      simp only [Option.elim, if_true, g1'.1.2.2.1]
      rw [e3]
      refine ⟨-1, u3, rfl, (f1.mo (by decide)).tr (f3.mo (by decide)), ?_, fun q hq' => ⟨?_, fun z => ?_⟩, fun e he => by cases he⟩
      · rw [show stD i B n (.ok p) = .error (1, p) from by unfold stD; simp only [hq]; rfl]
        exact ⟨⟨p, g1'.1.fc f3 (by decide) (by decide)⟩, show (1 : Int32) ≠ 0 by decide, b5, b6⟩
      · injection hq' with hq'; rw [← hq', hq]
      · injection hq' with hq'; rw [← hq', hq] at z; cases z
    | some j =>
      rw [hq] at c1 t1
      have hj : nI j ≠ -1 := by
        refine nI_m1 ?_
        unfold sgO at hq
        split at hq
        · unfold sgI at hq
          rw [List.findIdx?_eq_some_iff_getElem] at hq
          obtain ⟨hj, -⟩ := hq
          have := hi.2; omega
        · cases hq
      rw [if_pos (show (some j).isSome = true from rfl)] at c1
      simp only [Option.elim]
      refine ⟨nI j, u1, if_neg hj, f1.mo (by decide), ?_, fun q hq' => ⟨?_, fun _ => ?_⟩, fun e he => by cases he⟩
      · rw [show stD i B n (.ok p) = .ok (sk B n (p + 1)) from by unfold stD; simp only [hq]; rfl]
        exact c1
      · injection hq' with hq'; rw [← hq', hq]
      · injection hq' with hq'; rw [← hq']; exact t1 rfl
