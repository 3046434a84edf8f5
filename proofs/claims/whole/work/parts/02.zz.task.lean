/-! a task's text -/
def tkP (T : Nat → Int32) (j : Nat) (x : Int32) (i : Nat) : Int32 := if i = j then (if j < 2 then T j ||| ((1 : Int32) <<< (x &&& 31)) else x) else T i
def tkS (B : Nat → Int32) (n : Nat) : Nat → Nat → Nat → (Nat → Int32) → Except (Int32 × Nat) (Nat → Int32)
  | 0, _, _, T => .ok T
  | d + 1, p, k, T => match wdO 17 B n p with
    | none => if sk B n p = n then .ok T else .error (1, sk B n p)
    | some j => if k < 16 then (match numO 100000 B n (wsE B n p) 0 (if 3 ≤ j then 9 else 7) (-1) with
        | .error e => .error e
        | .ok (V, e) => if sgB B n e 59 = true then tkS B n d (sk B n e + 1) (k + 1) (tkP T j (nI V)) else .error (1, sk B n e)) else .error (3, sk B n p)
theorem cPutT (u : HS) (i0 : Nat) {j : Nat} (hj : j < 5) (x : Int32) : ∃ u', mX6_put u i0 (nI j) x = some u' ∧ (∀ r, r ≠ 6 → gI u' r = gI u r) ∧ (∀ i, i ≠ i0 → gI u' 6 i = gI u 6 i) ∧ (∀ c, gI u' 6 i0 c = tkP (gI u 6 i0) j x c) ∧ gR u' = gR u := by
  have W : ∀ (k : Nat) (y : Int32), y = (if k < 2 then gI u 6 i0 k ||| ((1 : Int32) <<< (x &&& 31)) else x) → (∀ r, r ≠ 6 → gI (wI u 6 i0 k y) r = gI u r) ∧ (∀ i, i ≠ i0 → gI (wI u 6 i0 k y) 6 i = gI u 6 i) ∧ (∀ c, gI (wI u 6 i0 k y) 6 i0 c = tkP (gI u 6 i0) k x c) ∧ gR (wI u 6 i0 k y) = gR u := by
    intro k y hy
    refine ⟨fun r hr => gI_r hr, fun i hi => gI_ri hi, fun c => ?_, rfl⟩
    unfold tkP
    by_cases e : c = k
    · rw [e, gI_eq, if_pos rfl, hy]
    · rw [gI_k e, if_neg e]
  unfold mX6_put
  match j, hj with
  | 0, _ => exact ⟨_, rfl, W 0 _ rfl⟩
  | 1, _ => exact ⟨_, rfl, W 1 _ rfl⟩
  | 2, _ => exact ⟨_, rfl, W 2 _ rfl⟩
  | 3, _ => exact ⟨_, rfl, W 3 _ rfl⟩
  | 4, _ => exact ⟨_, rfl, W 4 _ rfl⟩
theorem wd17_lt {B : Nat → Int32} {n p j : Nat} (h : wdO 17 B n p = some j) : j < 5 := by
  rw [wd17] at h
  split at h
  · injection h with h; omega
  · split at h
    · injection h with h; omega
    · split at h
      · injection h with h; omega
      · split at h
        · injection h with h; omega
        · split at h
          · injection h with h; omega
          · cases h
theorem sg0 {B : Nat → Int32} {n p : Nat} : sgO 0 B n p = if sgB B n p 59 = true then some 0 else none := by
  unfold sgO sgB
  by_cases c : sk B n p < n
  · rw [if_pos c, decide_eq_true c, Bool.true_and]
    show (List.findIdx? (fun c => decide (B (sk B n p) = c)) [59]) = _
    by_cases d : B (sk B n p) = 59
    · simp [d]
    · simp [d]
  · rw [if_neg c, decide_eq_false c]; simp
