/-! a task's text -/
def tkP (T : Nat → Int32) (j : Nat) (x : Int32) (i : Nat) : Int32 := if i = j then (if j < 2 then T j ||| ((1 : Int32) <<< (x &&& 31)) else x) else T i
def tkS (B : Nat → Int32) (n : Nat) : Nat → Nat → Nat → (Nat → Int32) → Except (Int32 × Nat) (Nat → Int32)
  | 0, _, _, T => .ok T
  | d + 1, p, k, T => match wdO 17 B n p with
    | none => if sk B n p = n then .ok T else .error (1, sk B n p)
    | some j => if k < 16 then (match numO 100000 B n (wsE B n p) 0 (if 3 ≤ j then 9 else 7) (-1) with
        | .error e => .error e
        | .ok (V, e) => if sgB B n e 59 = true then tkS B n d (sk B n e + 1) (k + 1) (tkP T j (nI V)) else .error (1, sk B n e)) else .error (3, sk B n p)
theorem cPutT (u : HS) (i0 : Nat) {j : Nat} (hj : j < 5) (x : Int32) : ∃ u', mX6_put u i0 (nI j) x = some u' ∧ (∀ r, r ≠ 6 → gI u' r = gI u r) ∧ (∀ i, i ≠ i0 → gI u' 6 i = gI u 6 i) ∧ (∀ c, gI u' 6 i0 c = tkP (gI u 6 i0) j x c) ∧ gR u' = gR u := by
  have W : ∀ (k : Nat) (y : Int32), y = (if k < 2 then gI u 6 i0 k ||| ((1 : Int32) <<< (x &&& 31)) else x) → (∀ r, r ≠ 6 → gI (wI u 6 i0 k y) r = gI u r) ∧ (∀ i, i ≠ i0 → gI (wI u 6 i0 k y) 6 i = gI u 6 i) ∧ (∀ c, gI (wI u 6 i0 k y) 6 i0 c = tkP (gI u 6 i0) k x c) ∧ gR (wI u 6 i0 k y) = gR u := by
    intro k y hy
    refine ⟨fun r hr => gI_r hr, fun i hi => gI_ri hi, fun c => ?_, rfl⟩
    unfold tkP
    by_cases e : c = k
    · rw [e, gI_eq, if_pos rfl, hy]
    · rw [gI_k e, if_neg e]
  unfold mX6_put
  match j, hj with
  | 0, _ => exact ⟨_, rfl, W 0 _ rfl⟩
  | 1, _ => exact ⟨_, rfl, W 1 _ rfl⟩
  | 2, _ => exact ⟨_, rfl, W 2 _ rfl⟩
  | 3, _ => exact ⟨_, rfl, W 3 _ rfl⟩
  | 4, _ => exact ⟨_, rfl, W 4 _ rfl⟩
theorem wd17_lt {B : Nat → Int32} {n p j : Nat} (h : wdO 17 B n p = some j) : j < 5 := by
  rw [wd17] at h
  split at h
  · injection h with h; omega
  · split at h
    · injection h with h; omega
    · split at h
      · injection h with h; omega
      · split at h
        · injection h with h; omega
        · split at h
          · injection h with h; omega
          · cases h
theorem sg0 {B : Nat → Int32} {n p : Nat} : sgO 0 B n p = if sgB B n p 59 = true then some 0 else none := by
  unfold sgO sgB
  by_cases c : sk B n p < n
  · rw [if_pos c, decide_eq_true c, Bool.true_and]
    show (List.findIdx? (fun c => decide (B (sk B n p) = c)) [59]) = _
    by_cases d : B (sk B n p) = 59
    · simp [d]
    · simp [d]
  · rw [if_neg c, decide_eq_false c]; simp

theorem numO_lt {B : Nat → Int32} {n p V e : Nat} {x y no : Int32} (hy : y < nI 100000) (h : numO 100000 B n p x y no = .ok (V, e)) : V < 100000 := by
  unfold numO at h
  split at h
  · split at h
    · rename_i q
      injection h with h
      injection h with h1 h2
      rw [← h1]
      exact inR_le hy q.1
    · cases h
  · cases h
theorem numO_err {M : Nat} {B : Nat → Int32} {n p q : Nat} {x y no κ : Int32} (h : numO M B n p x y no = .error (κ, q)) : κ ≠ 0 := by
  unfold numO at h
  split at h
  · split at h
    · cases h
    · injection h with h; injection h with h; rw [← h]; decide
  · injection h with h; injection h with h; rw [← h]; decide
theorem cTaskF {B : Nat → Int32} {n i0 k fu p : Nat} {u : HS} (hk : k ≤ 17) (h : LexC B n p u) (h5 : gI u 5 0 5 ≠ 0) : ∃ u', mX6_read_L27 i0 (fun u => some u) (fu + 1) (nI k) u = some u' ∧ FC [3, 4, 5, 6] u u' ∧ (∃ p', LexC B n p' u') ∧ gI u' 5 0 5 = gI u 5 0 5 ∧ gI u' 5 0 6 = gI u 5 0 6 := by
  rw [mX6_read_L27.eq_2]
  by_cases c : 16 < k
  · rw [if_pos (show (16 : Int32) < nI k from nI_lt (a := 16) c (by omega))]
    exact ⟨u, rfl, FC.rf, ⟨p, h⟩, rfl, rfl⟩
  · rw [if_neg (show ¬ (16 : Int32) < nI k from nI_nlt (a := 16) (by omega) (by omega))]
    obtain ⟨val, u1, p1, e1, f1, l1, g1, -⟩ := cClause (i := 17) (k := k) (m := 16) ⟨by decide, by decide⟩ (by omega) (by decide) h
    obtain ⟨gv, g5, g6⟩ := g1 h5
    rw [show mX5_clauseWord u 17 (nI k) 16 = _ from e1, gv]
    simp only [ob_q, bd_q, if_true]
    exact ⟨u1, rfl, f1, ⟨p1, l1⟩, g5, g6⟩
theorem cTaskL {B : Nat → Int32} {n i0 : Nat} : ∀ (d k fu p : Nat) (u : HS) (T : Nat → Int32), k + d = 17 → d < fu → LexC B n p u → gI u 5 0 5 = 0 → (∀ c, c < 5 → gI u 6 i0 c = T c) → ∃ u', mX6_read_L27 i0 (fun u => some u) fu (nI k) u = some u' ∧ (∃ p', LexC B n p' u') ∧ ((∀ r, r ≠ 5 → r ≠ 6 → gI u' r = gI u r) ∧ (∀ i, i ≠ i0 → gI u' 6 i = gI u 6 i) ∧ (∀ c, c ∉ [3, 4, 5, 6] → gI u' 5 0 c = gI u 5 0 c) ∧ gR u' = gR u) ∧ match tkS B n d p k T with | .ok T' => gI u' 5 0 5 = 0 ∧ gI u' 5 0 6 = gI u 5 0 6 ∧ ∀ c, c < 5 → gI u' 6 i0 c = T' c | .error (κ, q) => gI u' 5 0 5 = κ ∧ gI u' 5 0 6 = nI q := by
  intro d
  induction d with
  | zero =>
    intro k fu p u T h1 h2 h h5 hT
    obtain ⟨z, rfl⟩ : ∃ z, fu = z + 1 := ⟨fu - 1, by omega⟩
    rw [mX6_read_L27.eq_2, if_pos (show (16 : Int32) < nI k from nI_lt (a := 16) (by omega) (by omega))]
    exact ⟨u, rfl, ⟨p, h⟩, ⟨fun _ _ _ => rfl, fun _ _ => rfl, fun _ _ => rfl, rfl⟩, h5, rfl, hT⟩
  | succ d ih =>
    intro k fu p u T h1 h2 h h5 hT
    obtain ⟨z, rfl⟩ : ∃ z, fu = z + 1 := ⟨fu - 1, by omega⟩
    rw [mX6_read_L27.eq_2, if_neg (show ¬ (16 : Int32) < nI k from nI_nlt (a := 16) (by omega) (by omega))]
    obtain ⟨val, u1, p1, e1, f1, l1, -, g1⟩ := cClause (i := 17) (k := k) (m := 16) ⟨by decide, by decide⟩ (by omega) (by decide) h
    have g1' := g1 h5
    rw [show mX5_clauseWord u 17 (nI k) 16 = _ from e1]
    simp only [ob_q, bd_q]
    have fr : ∀ v, FC [3, 4, 5, 6] u v → (∀ r, r ≠ 5 → r ≠ 6 → gI v r = gI u r) ∧ (∀ i, i ≠ i0 → gI v 6 i = gI u 6 i) ∧ (∀ c, c ∉ [3, 4, 5, 6] → gI v 5 0 c = gI u 5 0 c) ∧ gR v = gR u := fun v hv => ⟨fun r a _ => hv.1 r a, fun i _ => by rw [hv.1 6 (by decide)], hv.2.1, hv.2.2⟩
    unfold tkS
    cases hs : wdO 17 B n p with
    | none =>
      rw [hs] at g1'
      obtain ⟨gv, g2⟩ := g1'
      rw [gv, if_pos rfl]
      refine ⟨u1, rfl, ⟨p1, l1⟩, fr u1 f1, ?_⟩
      by_cases c : sk B n p = n
      · rw [if_pos c] at g2
        simp only [if_pos c]
        exact ⟨g2.1, g2.2.1, fun c' hc' => by rw [f1.1 6 (by decide)]; exact hT c' hc'⟩
      · rw [if_neg c] at g2
        simp only [if_neg c]
        exact g2
    | some j =>
      rw [hs] at g1'
      have hj5 := wd17_lt hs
      simp only at g1' ⊢
      by_cases c : k < 16
      · rw [if_pos c] at g1'
        simp only [if_pos c]
        obtain ⟨gv, g5, g6, gp, g4⟩ := g1'
        subst gp
        rw [gv, if_neg (nI_m1 (by omega))]
        have hy : (if 3 ≤ nI j then some 9 else some 7 : Option Int32) = some (if 3 ≤ j then 9 else 7) := by
          by_cases q : 3 ≤ j
          · rw [if_pos (show (3 : Int32) ≤ nI j from nI_le (a := 3) q (by omega)), if_pos q]
          · rw [if_neg (show ¬ (3 : Int32) ≤ nI j from nI_ge (b := 3) (by omega) (by decide)), if_neg q]
        have hlt : (if 3 ≤ j then 9 else 7 : Int32) < nI 100000 := by split <;> decide
        rw [hy]
        simp only [ob_q]
        obtain ⟨x, u2, p2, e2, f2, l2, -, g2⟩ := cNum 0 (if 3 ≤ j then 9 else 7) l1
        have g2' := g2 g5
        rw [numO_eq hlt] at g2'
        rw [e2]
        simp only [ob_q]
        obtain ⟨u3, e3, r3, i3, v3, R3⟩ := cPutT u2 i0 hj5 x
        rw [e3]
        simp only [ob_q]
        have l3 : LexC B n p2 u3 := ⟨by rw [r3 5 (by decide)]; exact l2.1, l2.2.1, by rw [r3 5 (by decide)]; exact l2.2.2.1, l2.2.2.2.1, fun k hk => by rw [r3 45 (by decide)]; exact l2.2.2.2.2 k hk⟩
        obtain ⟨y, u4, p4, e4, f4, l4, h4, g4'⟩ := cDemand (i := 0) ⟨by decide, by decide⟩ l3
        rw [e4]
        simp only [ob_q, nI_1]
        have F : (∀ r, r ≠ 5 → r ≠ 6 → gI u4 r = gI u r) ∧ (∀ i, i ≠ i0 → gI u4 6 i = gI u 6 i) ∧ (∀ c, c ∉ [3, 4, 5, 6] → gI u4 5 0 c = gI u 5 0 c) ∧ gR u4 = gR u := by
          refine ⟨fun r a b => by rw [f4.1 r a, r3 r b, f2.1 r a, f1.1 r a], fun i hi => by rw [f4.1 6 (by decide), i3 i hi, f2.1 6 (by decide), f1.1 6 (by decide)], fun c hc => by rw [f4.2.1 c hc, r3 5 (by decide), f2.2.1 c hc, f1.2.1 c hc], by rw [f4.2.2, R3, f2.2.2, f1.2.2]⟩
        have u35 : ∀ c, gI u3 5 0 c = gI u2 5 0 c := fun c => by rw [r3 5 (by decide)]
        have fault : ∀ κ q, gI u4 5 0 5 = κ → gI u4 5 0 6 = nI q → κ ≠ 0 → ∃ u', mX6_read_L27 i0 (fun u => some u) z (nI (k + 1)) u4 = some u' ∧ (∃ p', LexC B n p' u') ∧ ((∀ r, r ≠ 5 → r ≠ 6 → gI u' r = gI u r) ∧ (∀ i, i ≠ i0 → gI u' 6 i = gI u 6 i) ∧ (∀ c, c ∉ [3, 4, 5, 6] → gI u' 5 0 c = gI u 5 0 c) ∧ gR u' = gR u) ∧ gI u' 5 0 5 = κ ∧ gI u' 5 0 6 = nI q := fun κ q a b hk0 => by
          obtain ⟨z', rfl⟩ : ∃ z', z = z' + 1 := ⟨z - 1, by omega⟩
          obtain ⟨u5, e5, f5, l5, a5, a6⟩ := cTaskF (i0 := i0) (k := k + 1) (fu := z') (by omega) l4 (by rw [a]; exact hk0)
          obtain ⟨F1, F2, F3, F4⟩ := F
          exact ⟨u5, e5, l5, ⟨fun r a' b' => (f5.1 r a').trans (F1 r a' b'), fun i hi => by rw [f5.1 6 (by decide)]; exact F2 i hi, fun c hc => (f5.2.1 c hc).trans (F3 c hc), f5.2.2.trans F4⟩, a5.trans a, a6.trans b⟩
        cases hN : numO 100000 B n (wsE B n p) 0 (if 3 ≤ j then 9 else 7) (-1) with
        | error eq =>
          obtain ⟨κ, q⟩ := eq
          rw [hN] at g2'
          have hk0 := numO_err hN
          obtain ⟨b5, b6⟩ := h4 (by rw [u35, g2'.1]; exact hk0)
          exact fault κ q (by rw [b5, u35]; exact g2'.1) (by rw [b6, u35]; exact g2'.2) hk0
        | ok Ve =>
          obtain ⟨V, e⟩ := Ve
          have hV := numO_lt hlt hN
          rw [hN] at g2'
          obtain ⟨gx, k5, k6, kp, -⟩ := g2'
          subst kp
          rw [Nat.min_eq_left (by omega)] at gx
          have g4'' := g4' (by rw [u35]; exact k5)
          rw [sg0] at g4''
          cases hS : sgB B n p2 59 with
          | false =>
            rw [hS, if_neg (by decide)] at g4''
            simp only [hS, Bool.false_eq_true, if_false]
            exact fault 1 (sk B n p2) g4''.1 g4''.2 (by decide)
          | true =>
            rw [hS, if_pos rfl] at g4''
            obtain ⟨-, m5, m6, mp⟩ := g4''
            subst mp
            obtain ⟨u', e', l', ⟨F1', F2', F3', F4'⟩, m'⟩ := ih (k + 1) z (sk B n p2 + 1) u4 (tkP T j (nI V)) (by omega) (by omega) l4 m5 (fun c hc => by
              rw [f4.1 6 (by decide), v3 c, gx]
              have e6 : ∀ c, c < 5 → gI u2 6 i0 c = T c := fun c hc => by rw [f2.1 6 (by decide), f1.1 6 (by decide)]; exact hT c hc
              unfold tkP
              rw [e6 c hc, e6 j hj5])
            obtain ⟨F1, F2, F3, F4⟩ := F
            refine ⟨u', e', l', ⟨fun r a b => (F1' r a b).trans (F1 r a b), fun i hi => (F2' i hi).trans (F2 i hi), fun c hc => (F3' c hc).trans (F3 c hc), F4'.trans F4⟩, ?_⟩
            have : gI u4 5 0 6 = gI u 5 0 6 := by rw [m6, u35, k6, g6]
            simp only [hS, if_true]
            rw [← this]
            exact m'
      · rw [if_neg c] at g1'
        simp only [if_neg c]
        rw [g1'.1, if_pos rfl]
        exact ⟨u1, rfl, ⟨p1, l1⟩, fr u1 f1, g1'.2⟩
