/-! ===== a place or a fault: what both sides are at ===== -/
abbrev PE (α : Type) : Type := Except (Int32 × Nat) α
def CPs (B : Nat → Int32) (n : Nat) (s : PE Nat) (u : HS) : Prop := match s with
  | .ok p => (∃ p', LexC B n p' u ∧ sk B n p' = p) ∧ gI u 5 0 5 = 0 ∧ gI u 5 0 6 = -1
  | .error e => (∃ p', LexC B n p' u) ∧ e.1 ≠ 0 ∧ gI u 5 0 5 = e.1 ∧ gI u 5 0 6 = nI e.2
/-- the reference may stand a little behind the end, once there is a fault -/
def RLx (B : Nat → Int32) (n m : Nat) (u : HS) : Prop := gI u 9 0 2 = nI n ∧ n ≤ 400 ∧ gI u 9 0 4 = nI m ∧ m ≤ n + 8 ∧ ∀ k, k < n → gI u 60 0 k = B k
def RPs (B : Nat → Int32) (n : Nat) (s : PE Nat) (u : HS) : Prop := match s with
  | .ok p => (∃ p', LexR B n p' u ∧ sk B n p' = p) ∧ gI u 9 0 6 = 0 ∧ gI u 9 0 7 = -1
  | .error e => (∃ m, RLx B n m u) ∧ e.1 ≠ 0 ∧ gI u 9 0 6 = e.1 ∧ gI u 9 0 7 = nI e.2
theorem LexR.lx {B : Nat → Int32} {n p : Nat} {u : HS} (h : LexR B n p u) : RLx B n p u := ⟨h.1, h.2.1, h.2.2.1, by have := h.2.2.2.1; omega, h.2.2.2.2⟩
theorem LexC.cg {B : Nat → Int32} {n p : Nat} {u v : HS} (h : LexC B n p u) (h5 : gI v 5 = gI u 5) (h45 : gI v 45 = gI u 45) : LexC B n p v := by unfold LexC; rw [h5, h45]; exact h
theorem LexR.cg {B : Nat → Int32} {n p : Nat} {u v : HS} (h : LexR B n p u) (h2 : gI v 9 0 2 = gI u 9 0 2) (h4 : gI v 9 0 4 = gI u 9 0 4) (h60 : gI v 60 = gI u 60) : LexR B n p v := by unfold LexR; rw [h2, h4, h60]; exact h
theorem RLx.cg {B : Nat → Int32} {n p : Nat} {u v : HS} (h : RLx B n p u) (h2 : gI v 9 0 2 = gI u 9 0 2) (h4 : gI v 9 0 4 = gI u 9 0 4) (h60 : gI v 60 = gI u 60) : RLx B n p v := by unfold RLx; rw [h2, h4, h60]; exact h
theorem CPs.cg {B : Nat → Int32} {n : Nat} {s : PE Nat} {u v : HS} (h : CPs B n s u) (h5 : gI v 5 = gI u 5) (h45 : gI v 45 = gI u 45) : CPs B n s v := by
  cases s with
  | ok p =>
    obtain ⟨⟨p', a, b⟩, c, d⟩ := h
    exact ⟨⟨p', a.cg h5 h45, b⟩, by rw [h5]; exact c, by rw [h5]; exact d⟩
  | error e =>
    obtain ⟨⟨p', a⟩, b, c, d⟩ := h
    exact ⟨⟨p', a.cg h5 h45⟩, b, by rw [h5]; exact c, by rw [h5]; exact d⟩
theorem RPs.cg {B : Nat → Int32} {n : Nat} {s : PE Nat} {u v : HS} (h : RPs B n s u) (h9 : ∀ k, k = 2 ∨ k = 4 ∨ k = 6 ∨ k = 7 → gI v 9 0 k = gI u 9 0 k) (h60 : gI v 60 = gI u 60) : RPs B n s v := by
  cases s with
  | ok p =>
    obtain ⟨⟨p', a, b⟩, c, d⟩ := h
    exact ⟨⟨p', a.cg (h9 2 (by omega)) (h9 4 (by omega)) h60, b⟩, by rw [h9 6 (by omega)]; exact c, by rw [h9 7 (by omega)]; exact d⟩
  | error e =>
    obtain ⟨⟨p', a⟩, b, c, d⟩ := h
    exact ⟨⟨p', a.cg (h9 2 (by omega)) (h9 4 (by omega)) h60⟩, b, by rw [h9 6 (by omega)]; exact c, by rw [h9 7 (by omega)]; exact d⟩
theorem CPs.w {B : Nat → Int32} {n : Nat} {s : PE Nat} {u : HS} {r i k : Nat} {x : Int32} (h : CPs B n s u) (h5 : 5 ≠ r) (h45 : 45 ≠ r) : CPs B n s (wI u r i k x) := h.cg (gI_r h5) (gI_r h45)
theorem RPs.w {B : Nat → Int32} {n : Nat} {s : PE Nat} {u : HS} {r i k : Nat} {x : Int32} (h : RPs B n s u) (h5 : 9 ≠ r) (h45 : 60 ≠ r) : RPs B n s (wI u r i k x) := h.cg (fun k _ => by rw [gI_r h5]) (gI_r h45)
theorem RPs.w9 {B : Nat → Int32} {n : Nat} {s : PE Nat} {u : HS} {k : Nat} {x : Int32} (h : RPs B n s u) (hk : k ≠ 2 ∧ k ≠ 4 ∧ k ≠ 6 ∧ k ≠ 7) : RPs B n s (wI u 9 0 k x) := h.cg (fun j hj => gI_k (by omega)) (gI_r (by decide))
theorem sk_of {B : Nat → Int32} {n p q : Nat} (hp : p ≤ n) (h : sk B n p = q) : sk B n q = q := by rw [← h, sk_idem hp]
theorem numO_cg {M : Nat} {B : Nat → Int32} {n p q : Nat} (x y no : Int32) (h : sk B n p = sk B n q) : numO M B n p x y no = numO M B n q x y no := by unfold numO; rw [h]
theorem wdO_cg {i : Nat} {B : Nat → Int32} {n p q : Nat} (h : sk B n p = sk B n q) : wdO i B n p = wdO i B n q := by unfold wdO wsE; rw [h]
theorem wsE_cg {B : Nat → Int32} {n p q : Nat} (h : sk B n p = sk B n q) : wsE B n p = wsE B n q := by unfold wsE; rw [h]
theorem sgB_cg {B : Nat → Int32} {n p q : Nat} (c : Int32) (h : sk B n p = sk B n q) : sgB B n p c = sgB B n q c := by unfold sgB; rw [h]
theorem sgO_cg {i : Nat} {B : Nat → Int32} {n p q : Nat} (h : sk B n p = sk B n q) : sgO i B n p = sgO i B n q := by unfold sgO; rw [h]
/-! a list of numbers, one behind the other -/
def stN (B : Nat → Int32) (n : Nat) (s : PE (List Nat × Nat)) (f : List Nat → Int32 × Int32 × Int32) : PE (List Nat × Nat) := match s with
  | .error e => .error e
  | .ok (a, p) => match numO 100000 B n p (f a).1 (f a).2.1 (f a).2.2 with
    | .error e => .error e
    | .ok (V, e) => .ok (a ++ [V], sk B n e)
def psP (s : PE (List Nat × Nat)) : PE Nat := match s with
  | .error e => .error e
  | .ok ap => .ok ap.2
theorem stN_e {B : Nat → Int32} {n : Nat} (e : Int32 × Nat) (f : List Nat → Int32 × Int32 × Int32) : stN B n (.error e) f = .error e := rfl
theorem numO_e {M : Nat} {B : Nat → Int32} {n p V e : Nat} {x y no : Int32} (hp : p ≤ n) (h : numO M B n p x y no = .ok (V, e)) : e ≤ n ∧ sk B n p < e := by
  unfold numO at h
  split at h
  · rename_i c
    split at h
    · injection h with h; injection h with h1 h2
      have hs := sk_le (B := B) hp
      have : sk B n p + 1 ≤ wh B isDg n (sk B n p) := by rw [wh_y c.1 c.2]; exact (wh_le (by omega)).1
      have := (wh_le (B := B) (P := isDg) hs.2).2
      omega
    · cases h
  · cases h
theorem cNumS {B : Nat → Int32} {n : Nat} {u : HS} (s : PE (List Nat × Nat)) (f : List Nat → Int32 × Int32 × Int32) (x y : Int32) (h : CPs B n (psP s) u) (hxy : ∀ a p, s = .ok (a, p) → f a = (x, y, -1) ∧ y < nI 100000) : ∃ val u', mX5_demandNumber u x y = some (val, u') ∧ FC [3, 4, 5, 6] u u' ∧ CPs B n (psP (stN B n s f)) u' ∧ ∀ a p, s = .ok (a, p) → ∀ b q, stN B n s f = .ok (b, q) → ∃ V, b = a ++ [V] ∧ val = nI V ∧ V < 100000 ∧ gI u' 5 0 4 = nI p := by
  cases s with
  | error e =>
    obtain ⟨⟨p', a⟩, b, c, d⟩ := h
    obtain ⟨val, u', q', e1, f1, l1, g1, -⟩ := cNum x y a
    obtain ⟨g5, g6⟩ := g1 (by rw [c]; exact b)
    exact ⟨val, u', e1, f1, ⟨⟨q', l1⟩, b, g5.trans c, g6.trans d⟩, fun a p hs => by cases hs⟩
  | ok ap =>
    obtain ⟨a, p⟩ := ap
    obtain ⟨⟨p', l, hs⟩, c, d⟩ := h
    obtain ⟨hf, hy⟩ := hxy a p rfl
    obtain ⟨val, u', q', e1, f1, l1, -, g1⟩ := cNum x y l
    have g := g1 c
    have hp' := l.2.2.2.1
    have hsk := sk_of hp' hs
    rw [numO_eq hy, numO_cg (q := p) x y (-1) (by rw [hs]; exact hsk.symm)] at g
    refine ⟨val, u', e1, f1, ?_, ?_⟩
    · simp only [stN, hf]
      cases hN : numO 100000 B n p x y (-1) with
      | error e => rw [hN] at g; exact ⟨⟨q', l1⟩, numO_err hN, g.1, g.2⟩
      | ok Ve =>
        obtain ⟨V, e⟩ := Ve
        rw [hN] at g
        obtain ⟨g1, g2, g3, g4, g5⟩ := g
        exact ⟨⟨q', l1, by rw [g4]⟩, g2, g3.trans d⟩
    · intro a' p0 ha b q hb
      injection ha with ha
      injection ha with ha1 ha2
      subst ha1
      subst ha2
      simp only [stN, hf] at hb
      cases hN : numO 100000 B n p x y (-1) with
      | error e => rw [hN] at hb; cases hb
      | ok Ve =>
        obtain ⟨V, e⟩ := Ve
        rw [hN] at g hb
        obtain ⟨g1, g2, g3, g4, g5⟩ := g
        have hV := numO_lt hy hN
        injection hb with hb
        injection hb with hb1 hb2
        exact ⟨V, hb1.symm, by rw [g1, Nat.min_eq_left (by omega)], hV, by rw [g5, hs]⟩
theorem tNumS {B : Nat → Int32} {n : Nat} {u : HS} (s : PE (List Nat × Nat)) (f : List Nat → Int32 × Int32 × Int32) (x y no : Int32) (h : RPs B n (psP s) u) (hxy : ∀ a p, s = .ok (a, p) → f a = (x, y, no) ∧ y < nI 100000) : ∃ val u', mX9_number u x y no = some (val, u') ∧ Fr [] [4, 6, 7] u u' ∧ RPs B n (psP (stN B n s f)) u' ∧ ∀ a p, s = .ok (a, p) → ∀ b q, stN B n s f = .ok (b, q) → ∃ V, b = a ++ [V] ∧ val = nI V ∧ V < 100000 := by
  cases s with
  | error e =>
    have h' := h
    obtain ⟨⟨p', a⟩, b, c, d⟩ := h
    refine ⟨0, u, ?_, Fr.rf, h', fun a p hs => by cases hs⟩
    unfold mX9_number
    rw [if_neg (by rw [c]; exact b)]
  | ok ap =>
    obtain ⟨a, p⟩ := ap
    obtain ⟨⟨p', l, hs⟩, c, d⟩ := h
    obtain ⟨hf, hy⟩ := hxy a p rfl
    obtain ⟨val, u', q', e1, f1, l1, -, g1⟩ := tNum x y no l
    have g := g1 c
    have hp' := l.2.2.2.1
    have hsk := sk_of hp' hs
    rw [numO_cg (q := p) x y no (by rw [hs]; exact hsk.symm)] at g
    refine ⟨val, u', e1, f1, ?_, ?_⟩
    · simp only [stN, hf]
      cases hN : numO 100000 B n p x y no with
      | error e => rw [hN] at g; exact ⟨⟨q', l1.lx⟩, numO_err hN, g.1, g.2⟩
      | ok Ve =>
        obtain ⟨V, e⟩ := Ve
        rw [hN] at g
        obtain ⟨g1, g2, g3, g4⟩ := g
        exact ⟨⟨q', l1, by rw [g4]⟩, g2, g3.trans d⟩
    · intro a' p0 ha b q hb
      injection ha with ha
      injection ha with ha1 ha2
      subst ha1
      subst ha2
      simp only [stN, hf] at hb
      cases hN : numO 100000 B n p x y no with
      | error e => rw [hN] at hb; cases hb
      | ok Ve =>
        obtain ⟨V, e⟩ := Ve
        rw [hN] at g hb
        have hV := numO_lt hy hN
        injection hb with hb
        injection hb with hb1 hb2
        exact ⟨V, hb1.symm, by rw [g.1, Nat.min_eq_left (by omega)], hV⟩
/-- the other bound: a number that must not be -/
theorem numO_no {B : Nat → Int32} {n p : Nat} {x y : Int32} (hy : y < nI 100000) {F : Nat} (hF : F < 2 ^ 31) : numO 100000 B n p x y (nI F) = match numO 100000 B n p x y (-1) with | .error e => .error e | .ok (V, e) => if V = F then .error (2, sk B n p) else .ok (V, e) := by
  unfold numO
  by_cases c : sk B n p < n ∧ isDg (B (sk B n p)) = true
  · rw [if_pos c, if_pos c]
    have V1 : nI (min (numV B (n - sk B n p) (sk B n p) 0) 100000) ≠ -1 := nI_m1 (by omega)
    by_cases d : inR (nI (min (numV B (n - sk B n p) (sk B n p) 0) 100000)) x y = true
    · rw [if_pos (c := _ ∧ nI (min (numV B (n - sk B n p) (sk B n p) 0) 100000) ≠ -1) ⟨d, V1⟩]
      have hV := inR_le hy d
      simp only
      rw [Nat.min_eq_left (by omega)] at d ⊢
      by_cases e : numV B (n - sk B n p) (sk B n p) 0 = F
      · rw [if_pos e, if_neg (fun q => q.2 (by rw [e]))]
      · rw [if_neg e, if_pos ⟨d, fun q => e ((nI_eq (by omega) hF).mp q)⟩]
    · rw [if_neg (fun q => d q.1), if_neg (fun q => d q.1)]
  · rw [if_neg c, if_neg c]
/-! signs -/
def stG (B : Nat → Int32) (n : Nat) (s : PE Nat) (c : Int32) : PE Nat := match s with
  | .error e => .error e
  | .ok p => if sgB B n p c = true then .ok (sk B n (p + 1)) else .error (1, p)
theorem stG_t {B : Nat → Int32} {n p : Nat} {c : Int32} (h : sgB B n p c = true) : stG B n (.ok p) c = .ok (sk B n (p + 1)) := if_pos h
theorem stG_f {B : Nat → Int32} {n p : Nat} {c : Int32} (h : sgB B n p c = false) : stG B n (.ok p) c = .error (1, p) := if_neg (by rw [h]; decide)
theorem cSemi {B : Nat → Int32} {n : Nat} {u : HS} (s : PE Nat) (h : CPs B n s u) : ∃ val u', mX5_demandSign u 0 = some (val, u') ∧ FC [3, 4, 5, 6] u u' ∧ CPs B n (stG B n s 59) u' := by
  cases s with
  | error e =>
    obtain ⟨⟨p', a⟩, b, c, d⟩ := h
    obtain ⟨val, u', q', e1, f1, l1, g1, -⟩ := cDemand (i := 0) ⟨by decide, by decide⟩ a
    obtain ⟨g5, g6⟩ := g1 (by rw [c]; exact b)
    exact ⟨val, u', e1, f1, ⟨q', l1⟩, b, g5.trans c, g6.trans d⟩
  | ok p =>
    obtain ⟨⟨p', l, hs⟩, c, d⟩ := h
    obtain ⟨val, u', q', e1, f1, l1, -, g1⟩ := cDemand (i := 0) ⟨by decide, by decide⟩ l
    have g := g1 c
    have hp' := l.2.2.2.1
    have hsk := sk_of hp' hs
    rw [sg0, sgB_cg (q := p) 59 (by rw [hs]; exact hsk.symm), hs] at g
    refine ⟨val, u', e1, f1, ?_⟩
    cases hS : sgB B n p 59 with
    | false =>
      rw [hS, if_neg (by decide)] at g
      rw [stG_f hS]
      exact ⟨⟨q', l1⟩, show (1 : Int32) ≠ 0 by decide, g.1, g.2⟩
    | true =>
      rw [hS, if_pos rfl] at g
      obtain ⟨-, g1, g2, g3⟩ := g
      rw [stG_t hS]
      exact ⟨⟨q', l1, by rw [g3]⟩, g1, g2.trans d⟩
theorem tSignS {B : Nat → Int32} {n : Nat} {u : HS} (s : PE Nat) {ch : Int32} (hch : ch ≠ -1) (h : RPs B n s u) : ∃ u', mX9_sign u ch = some u' ∧ Fr [] [4, 6, 7] u u' ∧ RPs B n (stG B n s ch) u' := by
  cases s with
  | error e =>
    have h' := h
    obtain ⟨⟨p', a⟩, b, c, d⟩ := h
    refine ⟨u, ?_, Fr.rf, h'⟩
    unfold mX9_sign
    rw [if_neg (by rw [c]; exact b)]
  | ok p =>
    obtain ⟨⟨p', l, hs⟩, c, d⟩ := h
    obtain ⟨u', q', e1, f1, l1, -, g1⟩ := tSign ch hch l
    have g := g1 c
    have hp' := l.2.2.2.1
    have hsk := sk_of hp' hs
    rw [sgB_cg (q := p) ch (by rw [hs]; exact hsk.symm), hs] at g
    refine ⟨u', e1, f1, ?_⟩
    cases hS : sgB B n p ch with
    | false =>
      rw [hS, if_neg (by decide)] at g
      rw [stG_f hS]
      exact ⟨⟨q', l1.lx⟩, show (1 : Int32) ≠ 0 by decide, g.1, g.2⟩
    | true =>
      rw [hS, if_pos rfl] at g
      obtain ⟨g1, g2, g3⟩ := g
      rw [stG_t hS]
      exact ⟨⟨q', l1, by rw [g3]⟩, g1, g2.trans d⟩
theorem rSkipX {B : Nat → Int32} {n m : Nat} {u : HS} (h : RLx B n m u) : ∃ m' u', mX9_blanks u = some u' ∧ RLx B n m' u' ∧ Fr [] [4] u u' := by
  by_cases c : m ≤ n
  · obtain ⟨u', e, l, f⟩ := rSkip (p := m) ⟨h.1, h.2.1, h.2.2.1, c, h.2.2.2.2⟩
    exact ⟨_, u', e, l.lx, f⟩
  · refine ⟨m, u, ?_, h, Fr.rf⟩
    have h4 := h.2.2.2.1
    have h2 := h.2.1
    unfold mX9_blanks
    simp only [jp_q]
    rw [show FU = 4095 + 1 from rfl, mX9_blanks_L0.eq_2, h.2.2.1]
    unfold mX9_byteAt
    rw [h.1, if_neg (nI_nlt (by omega) (by omega))]
    simp only [ob_q]
    rw [if_neg (by decide)]
/-- blanks, the reference -/
theorem tBlS {B : Nat → Int32} {n : Nat} {u : HS} (s : PE Nat) (h : RPs B n s u) : ∃ u', mX9_blanks u = some u' ∧ Fr [] [4] u u' ∧ RPs B n s u' ∧ ∀ p, s = .ok p → LexR B n p u' := by
  cases s with
  | error e =>
    obtain ⟨⟨p', a⟩, b, c, d⟩ := h
    obtain ⟨m', u', e1, l1, f1⟩ := rSkipX a
    exact ⟨u', e1, f1, ⟨⟨m', l1⟩, b, by rw [f1.2.1 6 (by decide)]; exact c, by rw [f1.2.1 7 (by decide)]; exact d⟩, fun p hp => by cases hp⟩
  | ok p =>
    obtain ⟨⟨p', l, hs⟩, c, d⟩ := h
    obtain ⟨u', e1, l1, f1⟩ := rSkip l
    rw [hs] at l1
    exact ⟨u', e1, f1, ⟨⟨p, l1, sk_of l.2.2.2.1 hs⟩, by rw [f1.2.1 6 (by decide)]; exact c, by rw [f1.2.1 7 (by decide)]; exact d⟩, fun q hq => by injection hq with hq; rw [← hq]; exact l1⟩
