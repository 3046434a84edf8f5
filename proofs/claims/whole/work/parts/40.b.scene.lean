/-! ===== what a scene says: its clauses, read off the reference's rows ===== -/
abbrev SV : Type := Nat × (Nat → Nat → Int32) × Nat × (Nat → Nat → Int32)
def sN (c : SV) : Nat := c.1
def sC (c : SV) (k j : Nat) : Int32 := c.2.1 k j
def sT (c : SV) : Nat := c.2.2.1
def sH (c : SV) (t j : Nat) : Int32 := c.2.2.2 t j
def scV (σ : HS) (s : Nat) : SV := ((gI σ 66 0 s).toNatClampNeg, (fun k j => if k < 24 then gI σ 65 (24 * s + k) j else 0), (gI σ 67 0 s).toNatClampNeg, fun t j => if t < 8 then gI σ 69 (8 * s + t) j else 0)
/-- the reference's rows of scene s are the scene c -/
def RS (u : HS) (s : Nat) (c : SV) : Prop := s < 6 ∧ sN c ≤ 24 ∧ sT c ≤ 8 ∧ gI u 66 0 s = nI (sN c) ∧ gI u 67 0 s = nI (sT c) ∧ (∀ k j, k < 24 → gI u 65 (24 * s + k) j = sC c k j) ∧ ∀ t j, t < 8 → gI u 69 (8 * s + t) j = sH c t j
theorem RS.of {u : HS} {s n t : Nat} (hs : s < 6) (hn : n ≤ 24) (ht : t ≤ 8) (h1 : gI u 66 0 s = nI n) (h2 : gI u 67 0 s = nI t) : RS u s (scV u s) := by
  have e1 : sN (scV u s) = n := by show (gI u 66 0 s).toNatClampNeg = n; rw [h1, nI_clamp (by omega)]
  have e2 : sT (scV u s) = t := by show (gI u 67 0 s).toNatClampNeg = t; rw [h2, nI_clamp (by omega)]
  refine ⟨hs, by omega, by omega, by rw [e1, h1], by rw [e2, h2], fun k j hk => ?_, fun t j ht => ?_⟩
  · show _ = if k < 24 then _ else _
    rw [if_pos hk]
  · show _ = if t < 8 then _ else _
    rw [if_pos ht]
def oJ (o : Nat) : Option Nat → Int32
  | none => -1
  | some q => nI (o + q)
def wayP (c : SV) (t τ : Int32) (k : Nat) : Bool := decide (sC c k 0 = 1) && decide (sC c k 1 = t) && decide (sC c k 2 ≤ τ) && decide (τ ≤ sC c k 5)
def lastP (p : Nat → Bool) (a : Option Nat) (k : Nat) : Option Nat := if p k then some k else a
/-- the clause that tells where a thing is in a tenth -/
def wayO (c : SV) (t τ : Int32) : Option Nat := (List.range (sN c)).foldl (lastP (wayP c t τ)) none
theorem lastP_lt {p : Nat → Bool} {l : List Nat} {n : Nat} (hl : ∀ k ∈ l, k < n) : ∀ {a : Option Nat}, (∀ q, a = some q → q < n) → ∀ q, l.foldl (lastP p) a = some q → q < n := by
  induction l with
  | nil => intro a ha q hq; exact ha q hq
  | cons x l ih =>
    intro a ha q hq
    refine ih (fun k hk => hl k (List.mem_cons_of_mem _ hk)) ?_ q hq
    intro q' hq'
    unfold lastP at hq'
    by_cases hp : p x = true
    · rw [if_pos hp] at hq'; cases hq'; exact hl _ List.mem_cons_self
    · rw [if_neg hp] at hq'; exact ha _ hq'
theorem lastP_p {p : Nat → Bool} {l : List Nat} : ∀ {a : Option Nat}, (∀ q, a = some q → p q = true) → ∀ q, l.foldl (lastP p) a = some q → p q = true := by
  induction l with
  | nil => intro a ha q hq; exact ha q hq
  | cons x l ih =>
    intro a ha q hq
    refine ih ?_ q hq
    intro q' hq'
    unfold lastP at hq'
    by_cases hp : p x = true
    · rw [if_pos hp] at hq'; cases hq'; exact hp
    · rw [if_neg hp] at hq'; exact ha _ hq'
theorem wayO_lt {c : SV} {t τ : Int32} {q : Nat} (h : wayO c t τ = some q) : q < sN c := lastP_lt (fun k hk => List.mem_range.mp hk) (fun q h => by cases h) q h
theorem wayO_p {c : SV} {t τ : Int32} {q : Nat} (h : wayO c t τ = some q) : wayP c t τ q = true := lastP_p (fun q h => by cases h) q h
theorem in_ok (x a b : Int32) : mX9_in x a b = some (bI (decide (a ≤ x) && decide (x ≤ b))) := by
  unfold mX9_in
  by_cases h1 : x < a
  · rw [if_pos h1, decide_eq_false (by rw [Int32.not_le]; exact h1)]; rfl
  · rw [if_neg h1, decide_eq_true (Int32.not_lt.mp h1)]
    by_cases h2 : b < x
    · rw [if_pos h2, decide_eq_false (by rw [Int32.not_le]; exact h2)]; rfl
    · rw [if_neg h2, decide_eq_true (Int32.not_lt.mp h2)]; rfl
theorem c8_0 : ck 8 0 = some 0 := by decide
theorem c8_1 : ck 8 1 = some 1 := by decide
theorem c8_2 : ck 8 2 = some 2 := by decide
theorem c8_3 : ck 8 3 = some 3 := by decide
theorem c8_4 : ck 8 4 = some 4 := by decide
theorem c8_5 : ck 8 5 = some 5 := by decide
theorem c8_6 : ck 8 6 = some 6 := by decide
theorem c8_7 : ck 8 7 = some 7 := by decide
theorem c2_0 : ck 2 0 = some 0 := by decide
theorem c2_1 : ck 2 1 = some 1 := by decide
theorem c5_0 : ck 5 0 = some 0 := by decide
theorem c5_1 : ck 5 1 = some 1 := by decide
theorem c5_2 : ck 5 2 = some 2 := by decide
theorem c5_3 : ck 5 3 = some 3 := by decide
theorem c5_4 : ck 5 4 = some 4 := by decide
theorem c4_0 : ck 4 0 = some 0 := by decide
theorem c4_1 : ck 4 1 = some 1 := by decide
theorem c4_2 : ck 4 2 = some 2 := by decide
theorem c4_3 : ck 4 3 = some 3 := by decide
theorem n24 (s : Nat) : (24 : Int32) * nI s = nI (24 * s) := pk_mul 24 s
theorem n8 (s : Nat) : (8 : Int32) * nI s = nI (8 * s) := pk_mul 8 s
theorem rWay {u : HS} {s : Nat} {c : SV} (h : RS u s c) (t τ : Int32) : mX9_wayOf u (nI s) t τ = some (oJ (24 * s) (wayO c t τ)) := by
  obtain ⟨hs, hn, -, hm, -, hC, -⟩ := h
  unfold mX9_wayOf
  simp only [bd_q, jp_q]
  rw [n24]
  refine (loopF0 (L := fun fu a x => mX9_wayOf_L9 (nI s) u t τ (fun x104 => some x104) fu (oJ (24 * s) a) x) (w := fun a => some (oJ (24 * s) a)) (lastP (wayP c t τ)) (n := sN c) (FU_lt (by omega)) ?_ ?_ (a := none) :)
  · intro fu a k hk
    show mX9_wayOf_L9 (nI s) u t τ _ (fu + 1) (oJ (24 * s) a) (nI (24 * s + k)) = mX9_wayOf_L9 (nI s) u t τ _ fu (oJ (24 * s) (lastP (wayP c t τ) a k)) (nI (24 * s + k + 1))
    rw [mX9_wayOf_L9.eq_2, ck_nI hs (by decide)]
    simp only [bd_q, jp_q, ob_q, n24, hm, nI_add, nI_1]
    rw [if_neg (nI_ge (by omega) (by omega)), ck_nI (show 24 * s + k < 144 by omega) (by decide)]
    simp only [c8_0, c8_1, c8_2, c8_5, ob_q, in_ok, hC k _ (by omega), bI_0]
    unfold lastP wayP
    by_cases h1 : sC c k 0 = 1 <;> by_cases h2 : sC c k 1 = t <;> by_cases h3 : sC c k 2 ≤ τ <;> by_cases h4 : τ ≤ sC c k 5 <;> simp [h1, h2, h3, h4, oJ]
  · intro fu a
    show mX9_wayOf_L9 (nI s) u t τ _ (fu + 1) (oJ (24 * s) a) (nI (24 * s + sN c)) = some (oJ (24 * s) a)
    rw [mX9_wayOf_L9.eq_2, ck_nI hs (by decide)]
    simp only [ob_q, n24, hm, nI_add]
    rw [if_pos (nI_le (Nat.le_refl _) (by omega))]
