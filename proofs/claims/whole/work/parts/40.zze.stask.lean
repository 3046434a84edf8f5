def tk0 (c : Nat) : Int32 := if c = 2 then -1 else if c = 3 then 4 else 0
theorem tk5 {r i0 : Nat} (u : HS) : (∀ c, c < 5 → gI (wI (wI (wI (wI (wI u r i0 0 0) r i0 1 0) r i0 2 (-1)) r i0 3 4) r i0 4 0) r i0 c = tk0 c) ∧ (∀ r', r' ≠ r → gI (wI (wI (wI (wI (wI u r i0 0 0) r i0 1 0) r i0 2 (-1)) r i0 3 4) r i0 4 0) r' = gI u r') ∧ ∀ i, i ≠ i0 → gI (wI (wI (wI (wI (wI u r i0 0 0) r i0 1 0) r i0 2 (-1)) r i0 3 4) r i0 4 0) r i = gI u r i := by
  refine ⟨fun c hc => ?_, fun r' h => by rw [gI_r h, gI_r h, gI_r h, gI_r h, gI_r h], fun i h => by rw [gI_ri h, gI_ri h, gI_ri h, gI_ri h, gI_ri h]⟩
  match c, hc with
  | 0, _ => rw [gI_k (by decide), gI_k (by decide), gI_k (by decide), gI_k (by decide), gI_eq]; rfl
  | 1, _ => rw [gI_k (by decide), gI_k (by decide), gI_k (by decide), gI_eq]; rfl
  | 2, _ => rw [gI_k (by decide), gI_k (by decide), gI_eq]; rfl
  | 3, _ => rw [gI_k (by decide), gI_eq]; rfl
  | 4, _ => rw [gI_eq]; rfl
/-- the class reads a task -/
theorem cTaskR {B : Nat → Int32} {n t : Nat} {u : HS} (h : LexC B n 0 u) (h5 : gI u 5 0 5 = 0) : ∃ u', mX6_read u t = some u' ∧ ((∀ r, r ≠ 5 → r ≠ 6 → gI u' r = gI u r) ∧ (∀ i, i ≠ t → gI u' 6 i = gI u 6 i) ∧ (∀ c, c ∉ [3, 4, 5, 6] → gI u' 5 0 c = gI u 5 0 c) ∧ gR u' = gR u) ∧ match tkS B n 17 0 0 tk0 with | .ok T' => gI u' 5 0 5 = 0 ∧ gI u' 5 0 6 = gI u 5 0 6 ∧ ∀ c, c < 5 → gI u' 6 t c = T' c | .error (κ, q) => gI u' 5 0 5 = κ ∧ gI u' 5 0 6 = nI q := by
  obtain ⟨k1, k2, k3⟩ := tk5 (r := 6) (i0 := t) u
  unfold mX6_read
  simp only [bd_q, jp_q]
  have l : LexC B n 0 (wI (wI (wI (wI (wI u 6 t 0 0) 6 t 1 0) 6 t 2 (-1)) 6 t 3 4) 6 t 4 0) := ⟨by rw [k2 5 (by decide)]; exact h.1, h.2.1, by rw [k2 5 (by decide)]; exact h.2.2.1, h.2.2.2.1, fun k hk => by rw [k2 45 (by decide)]; exact h.2.2.2.2 k hk⟩
  obtain ⟨u', e, -, ⟨f1, f2, f3, f4⟩, m⟩ := cTaskL 17 0 FU 0 _ tk0 rfl (FU_lt (by decide)) l (by rw [k2 5 (by decide)]; exact h5) k1
  refine ⟨u', e, ⟨fun r a b => (f1 r a b).trans (k2 r b), fun i hi => (f2 i hi).trans (k3 i hi), fun c hc => by rw [f3 c hc, k2 5 (by decide)], f4.trans rfl⟩, ?_⟩
  rw [k2 5 (by decide)] at m
  exact m
/-- the reference reads a task -/
theorem tTaskR {B : Nat → Int32} {n p t : Nat} {u : HS} (w : HS → Option (Int32 × HS)) (h : LexR B n p u) (hp : sk B n p = p) (h6 : gI u 9 0 6 = 0) (h9 : gI u 9 0 9 = 0) (ht : gI u 9 0 15 = nI t) (ht6 : t < 6) : ∃ u', mX9_task_L122 w FU (wI (wI (wI (wI (wI u 71 t 0 0) 71 t 1 0) 71 t 2 (-1)) 71 t 3 4) 71 t 4 0) = w u' ∧ Fr [71] [4, 6, 7, 9] u u' ∧ (∀ i, i ≠ t → gI u' 71 i = gI u 71 i) ∧ match tkS B n 17 p 0 tk0 with | .ok T' => gI u' 9 0 6 = 0 ∧ gI u' 9 0 7 = gI u 9 0 7 ∧ ∀ c, c < 5 → gI u' 71 t c = T' c | .error (κ, q) => gI u' 9 0 6 = κ ∧ gI u' 9 0 7 = nI q := by
  obtain ⟨k1, k2, k3⟩ := tk5 (r := 71) (i0 := t) u
  have F : Fr [71] [4, 6, 7, 9] u (wI (wI (wI (wI (wI u 71 t 0 0) 71 t 1 0) 71 t 2 (-1)) 71 t 3 4) 71 t 4 0) := ((((Fr.rf.sI (by decide) (by decide)).sI (by decide) (by decide)).sI (by decide) (by decide)).sI (by decide) (by decide)).sI (by decide) (by decide)
  have l : LexR B n p (wI (wI (wI (wI (wI u 71 t 0 0) 71 t 1 0) 71 t 2 (-1)) 71 t 3 4) 71 t 4 0) := ⟨by rw [k2 9 (by decide)]; exact h.1, h.2.1, by rw [k2 9 (by decide)]; exact h.2.2.1, h.2.2.2.1, fun k hk => by rw [k2 60 (by decide)]; exact h.2.2.2.2 k hk⟩
  obtain ⟨u', e, -, f, i, m⟩ := tTaskL (w := w) ht6 16 0 FU p _ tk0 rfl (FU_lt (by decide)) l hp (by rw [k2 9 (by decide)]; exact h6) (by rw [k2 9 (by decide)]; exact h9) (by rw [k2 9 (by decide)]; exact ht) k1
  refine ⟨u', e, F.tr f, fun i' hi => (i i' hi).trans (k3 i' hi), ?_⟩
  rw [k2 9 (by decide)] at m
  exact m
theorem tkS_err {B : Nat → Int32} {n : Nat} : ∀ (d p k : Nat) (T : Nat → Int32) (κ : Int32) (q : Nat), tkS B n d p k T = .error (κ, q) → κ ≠ 0 := by
  intro d
  induction d with
  | zero => intro p k T κ q h; cases h
  | succ d ih =>
    intro p k T κ q h
    unfold tkS at h
    cases hs : wdO 17 B n p with
    | none =>
      rw [hs] at h
      simp only at h
      split at h
      · cases h
      · injection h with h; injection h with h; rw [← h]; decide
    | some j =>
      rw [hs] at h
      simp only at h
      split at h
      · cases hN : numO 100000 B n (wsE B n p) 0 (if 3 ≤ j then 9 else 7) (-1) with
        | error e =>
          obtain ⟨κ', q'⟩ := e
          rw [hN] at h
          injection h with h; injection h with h h2; rw [← h]; exact numO_err hN
        | ok Ve =>
          obtain ⟨V, e⟩ := Ve
          rw [hN] at h
          simp only at h
          split at h
          · exact ih _ _ _ _ _ h
          · injection h with h; injection h with h; rw [← h]; decide
      · injection h with h; injection h with h; rw [← h]; decide
