/-! what a reader gives: code that is well typed, no longer than what was read -/
def tyL : List Int32 → List Bool → Option (List Bool)
  | [], st => some st
  | x :: r, st => (tyS x st).bind (tyL r)
theorem tyL_app : ∀ (r r' : List Int32) (st : List Bool), tyL (r ++ r') st = (tyL r st).bind (tyL r') := by
  intro r
  induction r with
  | nil => intro r' st; rfl
  | cons x r ih =>
    intro r' st
    show (tyS x st).bind (tyL (r ++ r')) = ((tyS x st).bind (tyL r)).bind (tyL r')
    cases tyS x st with
    | none => rfl
    | some st' => exact ih r' st'
def gOK (B : Nat → Int32) (n : Nat) (t : Bool) (b : Nat) (f : LSt → LSt) : Prop := ∀ q c pc, q ≤ n → sk B n q = q → f (.ok (q, c)) = .ok pc → ∃ r, pc.2 = c ++ r ∧ q + r.length ≤ pc.1 ∧ pc.1 ≤ n ∧ sk B n pc.1 = pc.1 ∧ ∀ st, st.length ≤ b → tyL r st = some (t :: st)
theorem sgO_in {i : Nat} {B : Nat → Int32} {n p j : Nat} (h : sgO i B n p = some j) : sk B n p < n := by
  unfold sgO at h
  split at h
  · assumption
  · cases h
theorem sgO_j {i : Nat} {B : Nat → Int32} {n p j : Nat} (h : sgO i B n p = some j) : j < (bytC.getD i []).length := by
  unfold sgO at h
  split at h
  · unfold sgI at h
    rw [List.findIdx?_eq_some_iff_getElem] at h
    exact h.1
  · cases h
theorem wdO_st {i : Nat} {B : Nat → Int32} {n p j : Nat} (h : wdO i B n p = some j) (hp : p ≤ n) (hi : ∀ q, wdR B q 0 (bytC.getD i []) 0 (some 0) = none) : sk B n p < wsE B n p := by
  have h1 := (wsE_le (B := B) hp).1
  by_cases c : sk B n p = wsE B n p
  · unfold wdO at h
    rw [← c, Nat.sub_self, hi] at h
    cases h
  · omega
theorem eqW_0 {B : Nat → Int32} {q : Nat} {w : List Int32} (h : w.length ≠ 0) : eqW B q 0 w = false := by
  unfold eqW; rw [decide_eq_false h, Bool.false_and]
theorem wr4 {B : Nat → Int32} (q : Nat) : wdR B q 0 (bytC.getD 4 []) 0 (some 0) = none := by
  show wdR B q 0 (([111, 114] : List Int32) ++ 32 :: []) 0 (some 0) = none
  rw [wdR_eq _ _ _ (by decide), eqW_0 (by decide)]; rfl
theorem wr5 {B : Nat → Int32} (q : Nat) : wdR B q 0 (bytC.getD 5 []) 0 (some 0) = none := by
  show wdR B q 0 (([97, 110, 100] : List Int32) ++ 32 :: []) 0 (some 0) = none
  rw [wdR_eq _ _ _ (by decide), eqW_0 (by decide)]; rfl
theorem wr6 {B : Nat → Int32} (q : Nat) : wdR B q 0 (bytC.getD 6 []) 0 (some 0) = none := by
  show wdR B q 0 (([110, 111, 116] : List Int32) ++ 32 :: []) 0 (some 0) = none
  rw [wdR_eq _ _ _ (by decide), eqW_0 (by decide)]; rfl
theorem wr11 {B : Nat → Int32} (q : Nat) : wdR B q 0 (bytC.getD 11 []) 0 (some 0) = none := by
  show wdR B q 0 (([105, 102] : List Int32) ++ 32 :: []) 0 (some 0) = none
  rw [wdR_eq _ _ _ (by decide), eqW_0 (by decide)]; rfl
theorem wd15 {B : Nat → Int32} {q len : Nat} : wdR B q len (bytC.getD 15 []) 0 (some 0) = if eqW B q len [108, 101, 97, 115, 116] = true then some 0 else if eqW B q len [109, 111, 115, 116] = true then some 1 else none := by
  show wdR B q len (([108, 101, 97, 115, 116] : List Int32) ++ 32 :: (([109, 111, 115, 116] : List Int32) ++ 32 :: [])) 0 (some 0) = _
  rw [wdR_eq _ _ _ (by decide), wdR_eq _ _ _ (by decide)]; rfl
theorem wr15 {B : Nat → Int32} (q : Nat) : wdR B q 0 (bytC.getD 15 []) 0 (some 0) = none := by
  rw [wd15, eqW_0 (by decide), eqW_0 (by decide)]; rfl
theorem wd14 {B : Nat → Int32} {q len : Nat} : wdR B q len (bytC.getD 14 []) 0 (some 0) = if eqW B q len [108, 105, 107, 101] = true then some 0 else if eqW B q len [100, 114, 111, 112] = true then some 1 else if eqW B q len [110, 101, 97, 114] = true then some 2 else if eqW B q len [115, 105, 122, 101] = true then some 3 else if eqW B q len [112, 97, 99, 101] = true then some 4 else if eqW B q len [102, 117, 108, 108] = true then some 5 else if eqW B q len [111, 100, 100] = true then some 6 else if eqW B q len [119, 97, 116, 99, 104] = true then some 7 else if eqW B q len [99, 104, 97, 110, 103, 101] = true then some 8 else if eqW B q len [107, 110, 111, 119, 115] = true then some 9 else if eqW B q len [116, 101, 110, 116, 104] = true then some 10 else none := by
  show wdR B q len (([108, 105, 107, 101] : List Int32) ++ 32 :: (([100, 114, 111, 112] : List Int32) ++ 32 :: (([110, 101, 97, 114] : List Int32) ++ 32 :: (([115, 105, 122, 101] : List Int32) ++ 32 :: (([112, 97, 99, 101] : List Int32) ++ 32 :: (([102, 117, 108, 108] : List Int32) ++ 32 :: (([111, 100, 100] : List Int32) ++ 32 :: (([119, 97, 116, 99, 104] : List Int32) ++ 32 :: (([99, 104, 97, 110, 103, 101] : List Int32) ++ 32 :: (([107, 110, 111, 119, 115] : List Int32) ++ 32 :: (([116, 101, 110, 116, 104] : List Int32) ++ 32 :: []))))))))))) 0 (some 0) = _
  rw [wdR_eq _ _ _ (by decide), wdR_eq _ _ _ (by decide), wdR_eq _ _ _ (by decide), wdR_eq _ _ _ (by decide), wdR_eq _ _ _ (by decide), wdR_eq _ _ _ (by decide), wdR_eq _ _ _ (by decide), wdR_eq _ _ _ (by decide), wdR_eq _ _ _ (by decide), wdR_eq _ _ _ (by decide), wdR_eq _ _ _ (by decide)]; rfl
theorem wr14 {B : Nat → Int32} (q : Nat) : wdR B q 0 (bytC.getD 14 []) 0 (some 0) = none := by
  rw [wd14, eqW_0 (by decide), eqW_0 (by decide), eqW_0 (by decide), eqW_0 (by decide), eqW_0 (by decide), eqW_0 (by decide), eqW_0 (by decide), eqW_0 (by decide), eqW_0 (by decide), eqW_0 (by decide), eqW_0 (by decide)]; rfl
theorem wd14_lt {B : Nat → Int32} {n p j : Nat} (h : wdO 14 B n p = some j) : j < 11 := by
  unfold wdO at h
  rw [wd14] at h
  by_cases e0 : eqW B (sk B n p) (wsE B n p - sk B n p) [108, 105, 107, 101] = true
  · rw [if_pos e0] at h; injection h with h; omega
  rw [if_neg e0] at h
  by_cases e1 : eqW B (sk B n p) (wsE B n p - sk B n p) [100, 114, 111, 112] = true
  · rw [if_pos e1] at h; injection h with h; omega
  rw [if_neg e1] at h
  by_cases e2 : eqW B (sk B n p) (wsE B n p - sk B n p) [110, 101, 97, 114] = true
  · rw [if_pos e2] at h; injection h with h; omega
  rw [if_neg e2] at h
  by_cases e3 : eqW B (sk B n p) (wsE B n p - sk B n p) [115, 105, 122, 101] = true
  · rw [if_pos e3] at h; injection h with h; omega
  rw [if_neg e3] at h
  by_cases e4 : eqW B (sk B n p) (wsE B n p - sk B n p) [112, 97, 99, 101] = true
  · rw [if_pos e4] at h; injection h with h; omega
  rw [if_neg e4] at h
  by_cases e5 : eqW B (sk B n p) (wsE B n p - sk B n p) [102, 117, 108, 108] = true
  · rw [if_pos e5] at h; injection h with h; omega
  rw [if_neg e5] at h
  by_cases e6 : eqW B (sk B n p) (wsE B n p - sk B n p) [111, 100, 100] = true
  · rw [if_pos e6] at h; injection h with h; omega
  rw [if_neg e6] at h
  by_cases e7 : eqW B (sk B n p) (wsE B n p - sk B n p) [119, 97, 116, 99, 104] = true
  · rw [if_pos e7] at h; injection h with h; omega
  rw [if_neg e7] at h
  by_cases e8 : eqW B (sk B n p) (wsE B n p - sk B n p) [99, 104, 97, 110, 103, 101] = true
  · rw [if_pos e8] at h; injection h with h; omega
  rw [if_neg e8] at h
  by_cases e9 : eqW B (sk B n p) (wsE B n p - sk B n p) [107, 110, 111, 119, 115] = true
  · rw [if_pos e9] at h; injection h with h; omega
  rw [if_neg e9] at h
  by_cases e10 : eqW B (sk B n p) (wsE B n p - sk B n p) [116, 101, 110, 116, 104] = true
  · rw [if_pos e10] at h; injection h with h; omega
  rw [if_neg e10] at h
  cases h
theorem wd15_lt {B : Nat → Int32} {n p j : Nat} (h : wdO 15 B n p = some j) : j < 2 := by
  unfold wdO at h
  rw [wd15] at h
  repeat (split at h; · (injection h with h; omega))
  cases h
/-- a step of a loop takes something -/
def tkOK (B : Nat → Int32) (n : Nat) (tk : Nat → Option (Int32 × Nat)) (P : Int32 → Prop) : Prop := ∀ p xq, p ≤ n → sk B n p = p → tk p = some xq → p + 1 ≤ xq.2 ∧ xq.2 ≤ n ∧ sk B n xq.2 = xq.2 ∧ P xq.1
theorem tks_ok {B : Nat → Int32} {n i x0 : Nat} {P : Int32 → Prop} (hP : ∀ j, j < (bytC.getD i []).length → P (nI (x0 + j))) : tkOK B n (tks B n i x0) P := by
  intro p xq hp hsk h
  unfold tks at h
  cases hq : sgO i B n p with
  | none => rw [hq] at h; cases h
  | some j =>
    rw [hq] at h
    have := sgO_in hq
    rw [hsk] at this
    injection h with h
    rw [← h]
    have l := sk_le (B := B) (show p + 1 ≤ n by omega)
    exact ⟨l.1, l.2, sk_idem (by omega), hP j (sgO_j hq)⟩
theorem tkw_ok {B : Nat → Int32} {n i x0 : Nat} {P : Int32 → Prop} (hi : ∀ q, wdR B q 0 (bytC.getD i []) 0 (some 0) = none) (hP : P (nI x0)) : tkOK B n (tkw B n i x0) P := by
  intro p xq hp hsk h
  unfold tkw at h
  split at h
  · rename_i hq
    have := wdO_st hq hp hi
    rw [hsk] at this
    injection h with h
    rw [← h]
    have w := (wsE_le (B := B) hp).2
    have l := sk_le (B := B) w
    exact ⟨by omega, l.2, sk_idem w, hP⟩
  · cases h
theorem opL_ok {B : Nat → Int32} {n b : Nat} {t : Bool} {tk : Nat → Option (Int32 × Nat)} {f : LSt → LSt} (htk : tkOK B n tk (fun x => ∀ st, tyS x (t :: t :: st) = some (t :: st))) (hf : gOK B n t (b + 1) f) : ∀ (m : Nat) (q : Nat) (c : List Int32) (pc : Nat × List Int32), q ≤ n → sk B n q = q → opL tk f m (.ok (q, c)) = .ok pc → ∃ r, pc.2 = c ++ r ∧ q + r.length ≤ pc.1 ∧ pc.1 ≤ n ∧ sk B n pc.1 = pc.1 ∧ ∀ st, st.length ≤ b → tyL r (t :: st) = some (t :: st) := by
  intro m
  induction m with
  | zero => intro q c pc hq hsk h; injection h with h; rw [← h]; exact ⟨[], by simp, by simp, hq, hsk, fun st _ => rfl⟩
  | succ m ih =>
    intro q c pc hq hsk h
    simp only [opL] at h
    cases ht : tk q with
    | none => rw [ht] at h; injection h with h; rw [← h]; exact ⟨[], by simp, by simp, hq, hsk, fun st _ => rfl⟩
    | some xq =>
      rw [ht] at h
      simp only at h
      obtain ⟨x, q1⟩ := xq
      obtain ⟨k1, k2, k3, k4⟩ := htk q (x, q1) hq hsk ht
      cases hs : f (.ok (q1, c)) with
      | error e =>
        rw [hs] at h
        exfalso
        have : ∀ m, opL tk f m (.error e) = .error e := fun m => by cases m <;> rfl
        simp only [lE] at h
        rw [this] at h
        cases h
      | ok pc1 =>
        obtain ⟨p1, c1⟩ := pc1
        rw [hs] at h
        obtain ⟨r1, a1, a2, a3, a4, a5⟩ := hf q1 c (p1, c1) k2 k3 hs
        simp only at a1 a2 a3 a4 k1 k2 k3 k4
        obtain ⟨r2, b1, b2, b3, b4, b5⟩ := ih p1 (c1 ++ [x]) pc a3 a4 h
        refine ⟨r1 ++ [x] ++ r2, by rw [b1, a1, List.append_assoc, List.append_assoc, List.append_assoc], by simp only [List.length_append, List.length_cons, List.length_nil]; omega, b3, b4, fun st hst => ?_⟩
        rw [tyL_app, tyL_app, a5 (t :: st) (by simp; omega)]
        show ((tyS x (t :: t :: st)).bind (tyL [])).bind (tyL r2) = _
        rw [k4]
        exact b5 st hst
theorem opG {B : Nat → Int32} {n b : Nat} {t : Bool} {tk : Nat → Option (Int32 × Nat)} {f : LSt → LSt} (htk : tkOK B n tk (fun x => ∀ st, tyS x (t :: t :: st) = some (t :: st))) (hf : gOK B n t (b + 1) f) (m : Nat) : gOK B n t b (fun s => opL tk f m (f s)) := by
  intro q c pc hq hsk h
  simp only at h
  cases hs : f (.ok (q, c)) with
  | error e =>
    rw [hs] at h
    have : ∀ m, opL tk f m (.error e) = .error e := fun m => by cases m <;> rfl
    rw [this] at h
    cases h
  | ok pc1 =>
    obtain ⟨p1, c1⟩ := pc1
    rw [hs] at h
    obtain ⟨r1, a1, a2, a3, a4, a5⟩ := hf q c (p1, c1) hq hsk hs
    simp only at a1 a2 a3 a4
    obtain ⟨r2, b1, b2, b3, b4, b5⟩ := opL_ok htk hf m p1 c1 pc a3 a4 h
    refine ⟨r1 ++ r2, by rw [b1, a1, List.append_assoc], by simp only [List.length_append]; omega, b3, b4, fun st hst => ?_⟩
    rw [tyL_app, a5 st (by omega)]
    exact b5 st hst
theorem lG_ok {B : Nat → Int32} {n : Nat} {s : LSt} {ch : Int32} {pc : Nat × List Int32} (h : lG B n s ch = .ok pc) : ∃ p, s = .ok (p, pc.2) ∧ sgB B n p ch = true ∧ pc.1 = sk B n (p + 1) := by
  cases s with
  | error e => cases h
  | ok qc =>
    simp only [lG] at h
    split at h
    · rename_i hc
      injection h with h
      rw [← h]
      exact ⟨qc.1, rfl, hc, rfl⟩
    · cases h
theorem sgB_in {B : Nat → Int32} {n p : Nat} {ch : Int32} (h : sgB B n p ch = true) : sk B n p < n := by
  unfold sgB at h
  simp only [Bool.and_eq_true, decide_eq_true_eq] at h
  exact h.1
theorem push_ok {x : Int32} {N : Nat} (hx : x = nI N) (hN : N < 10011) (st : List Bool) (h : st.length ≤ 59) : tyS x st = some (false :: st) := by
  unfold tyS
  rw [if_pos (by rw [hx]; exact ⟨nI_pos' (by omega), nI_lt (b := 10011) hN (by decide)⟩), if_pos (by omega)]
