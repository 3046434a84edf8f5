/-! ===== what the reference reads of a scene ===== -/
theorem c8_30 : ck 8 (3 + 0) = some 3 := by decide
theorem c8_31 : ck 8 (3 + 1) = some 4 := by decide
theorem c8_60 : ck 8 (6 + 0) = some 6 := by decide
theorem c8_61 : ck 8 (6 + 1) = some 7 := by decide
theorem sub_ne {a b : Int32} (h : a ≠ b) : a - b ≠ 0 := fun q => h (by have := Int32.sub_add_cancel a b; rw [q, Int32.zero_add] at this; exact this.symm)
def kOK (c : SV) (k : Nat) : Prop :=
  (sC c k 0 = 0 ∧ (∃ z, z < 8 ∧ sC c k 1 = nI z) ∧ ∃ z, 1 ≤ z ∧ z < 10 ∧ sC c k 2 = nI z) ∨
  (sC c k 0 = 1 ∧ (∃ t, t < sT c ∧ sC c k 1 = nI t) ∧ (∃ a b, a ≤ b ∧ b < 300 ∧ sC c k 2 = nI a ∧ sC c k 5 = nI b) ∧ (∃ x y, x < 40 ∧ y < 30 ∧ sC c k 3 = nI x ∧ sC c k 4 = nI y) ∧ ∃ x y, x < 40 ∧ y < 30 ∧ sC c k 6 = nI x ∧ sC c k 7 = nI y) ∨
  (sC c k 0 = 2 ∧ (∃ t, t < sT c ∧ sC c k 1 = nI t) ∧ (∃ t, t < sT c ∧ sC c k 2 = nI t) ∧ ∃ a, a < 300 ∧ sC c k 3 = nI a) ∨
  (sC c k 0 = 3 ∧ ∃ t, t < sT c ∧ sC c k 1 = nI t) ∨
  (sC c k 0 = 4 ∧ (∃ t, t < sT c ∧ sC c k 1 = nI t) ∧ (∃ a, a < 300 ∧ sC c k 2 = nI a) ∧ ∃ z, z < 8 ∧ sC c k 3 = nI z)
def SWF (c : SV) : Prop := (∀ k, k < sN c → kOK c k) ∧ ∀ t, t < sT c → (∃ z, z < 8 ∧ sH c t 0 = nI z) ∧ ∃ z, 1 ≤ z ∧ z < 10 ∧ sH c t 1 = nI z
theorem SWF.k2 {c : SV} (h : SWF c) {k : Nat} (hk : k < sN c) (h2 : sC c k 0 = 2) : (∃ t, t < sT c ∧ sC c k 1 = nI t) ∧ (∃ t, t < sT c ∧ sC c k 2 = nI t) ∧ ∃ a, a < 300 ∧ sC c k 3 = nI a := by
  rcases h.1 k hk with q | q | q | q | q
  · rw [h2] at q; exact absurd q.1 (by decide)
  · rw [h2] at q; exact absurd q.1 (by decide)
  · exact q.2
  · rw [h2] at q; exact absurd q.1 (by decide)
  · rw [h2] at q; exact absurd q.1 (by decide)
theorem SWF.k1 {c : SV} (h : SWF c) {k : Nat} (hk : k < sN c) (h2 : sC c k 0 = 1) : (∃ t, t < sT c ∧ sC c k 1 = nI t) ∧ (∃ a b, a ≤ b ∧ b < 300 ∧ sC c k 2 = nI a ∧ sC c k 5 = nI b) ∧ (∃ x y, x < 40 ∧ y < 30 ∧ sC c k 3 = nI x ∧ sC c k 4 = nI y) ∧ ∃ x y, x < 40 ∧ y < 30 ∧ sC c k 6 = nI x ∧ sC c k 7 = nI y := by
  rcases h.1 k hk with q | q | q | q | q
  · rw [h2] at q; exact absurd q.1 (by decide)
  · exact q.2
  · rw [h2] at q; exact absurd q.1 (by decide)
  · rw [h2] at q; exact absurd q.1 (by decide)
  · rw [h2] at q; exact absurd q.1 (by decide)
theorem SWF.k3 {c : SV} (h : SWF c) {k : Nat} (hk : k < sN c) (h2 : sC c k 0 = 3) : ∃ t, t < sT c ∧ sC c k 1 = nI t := by
  rcases h.1 k hk with q | q | q | q | q
  · rw [h2] at q; exact absurd q.1 (by decide)
  · rw [h2] at q; exact absurd q.1 (by decide)
  · rw [h2] at q; exact absurd q.1 (by decide)
  · exact q.2
  · rw [h2] at q; exact absurd q.1 (by decide)
theorem SWF.k4 {c : SV} (h : SWF c) {k : Nat} (hk : k < sN c) (h2 : sC c k 0 = 4) : (∃ t, t < sT c ∧ sC c k 1 = nI t) ∧ (∃ a, a < 300 ∧ sC c k 2 = nI a) ∧ ∃ z, z < 8 ∧ sC c k 3 = nI z := by
  rcases h.1 k hk with q | q | q | q | q
  · rw [h2] at q; exact absurd q.1 (by decide)
  · rw [h2] at q; exact absurd q.1 (by decide)
  · rw [h2] at q; exact absurd q.1 (by decide)
  · rw [h2] at q; exact absurd q.1 (by decide)
  · exact q.2
/-! places -/
def plcO (c : SV) (q : Nat) (τ : Int32) (w : Nat) : Int32 := if sC c q 2 = sC c q 5 then sC c q (3 + w) else sC c q (3 + w) + ((sC c q (6 + w) - sC c q (3 + w)) * (τ - sC c q 2)) / (sC c q 5 - sC c q 2)
def plcS (c : SV) (t τ : Int32) (w : Nat) : Int32 := (wayO c t τ).elim (-1) fun q => plcO c q τ w
theorem oJ_m1 {o : Nat} {a : Option Nat} (h : ∀ q, a = some q → o + q < 2 ^ 31) : (oJ o a = -1) = (a = none) := by
  cases a with
  | none => simp [oJ]
  | some q => simp [oJ, nI_m1 (h q rfl)]
theorem rPlace0 {u : HS} {s : Nat} {c : SV} (h : RS u s c) (t τ : Int32) : mX9_placeOf u (nI s) t τ 0 = some (plcS c t τ 0) := by
  unfold mX9_placeOf
  rw [rWay h]
  obtain ⟨hs, hn, -, hm, -, hC, -⟩ := h
  unfold plcS
  cases hw : wayO c t τ with
  | none => rfl
  | some q =>
    have hq := wayO_lt hw
    simp only [ob_q, oJ, Option.elim]
    rw [if_neg (nI_m1 (by omega)), ck_nI (show 24 * s + q < 144 by omega) (by decide)]
    simp only [c8_2, c8_5, c8_30, c8_60, ob_q, hC q _ (by omega)]
    unfold plcO
    by_cases hc : sC c q 2 = sC c q 5
    · rw [if_pos hc, if_pos hc]
    · rw [if_neg hc, if_neg hc, nz_ok (sub_ne (fun z => hc z.symm))]; rfl
theorem rPlace1 {u : HS} {s : Nat} {c : SV} (h : RS u s c) (t τ : Int32) : mX9_placeOf u (nI s) t τ 1 = some (plcS c t τ 1) := by
  unfold mX9_placeOf
  rw [rWay h]
  obtain ⟨hs, hn, -, hm, -, hC, -⟩ := h
  unfold plcS
  cases hw : wayO c t τ with
  | none => rfl
  | some q =>
    have hq := wayO_lt hw
    simp only [ob_q, oJ, Option.elim]
    rw [if_neg (nI_m1 (by omega)), ck_nI (show 24 * s + q < 144 by omega) (by decide)]
    simp only [c8_2, c8_5, c8_31, c8_61, ob_q, hC q _ (by omega)]
    unfold plcO
    by_cases hc : sC c q 2 = sC c q 5
    · rw [if_pos hc, if_pos hc]
    · rw [if_neg hc, if_neg hc, nz_ok (sub_ne (fun z => hc z.symm))]; rfl
def isT (c : SV) (t τ : Int32) : Bool := (wayO c t τ).isSome
theorem rThere {u : HS} {s : Nat} {c : SV} (h : RS u s c) (t τ : Int32) : mX9_isThere u (nI s) t τ = some (bI (isT c t τ)) := by
  unfold mX9_isThere
  rw [rWay h]
  obtain ⟨hs, hn, -, -, -, -, -⟩ := h
  unfold isT
  cases hw : wayO c t τ with
  | none => rfl
  | some q =>
    have hq := wayO_lt hw
    simp only [ob_q, oJ]
    rw [if_neg (nI_m1 (by omega))]; rfl
def amt (x : Int32) : Int32 := if 0 ≤ x then x else -x
def mor (x y : Int32) : Int32 := if x ≤ y then y else x
theorem rAmt (x : Int32) : mX9_amount x = some (amt x) := by
  unfold mX9_amount amt; by_cases h : 0 ≤ x <;> simp [h]
theorem rMor (x y : Int32) : mX9_more x y = some (mor x y) := by
  unfold mX9_more mor; by_cases h : x ≤ y <;> simp [h]
def pacS (c : SV) (t τ : Int32) : Int32 := if τ = 0 ∨ isT c t τ = false ∨ isT c t (τ - 1) = false then 0 else mor (amt (plcS c t τ 0 - plcS c t (τ - 1) 0)) (amt (plcS c t τ 1 - plcS c t (τ - 1) 1))
theorem rPace {u : HS} {s : Nat} {c : SV} (h : RS u s c) (t τ : Int32) : mX9_paceOf u (nI s) t τ = some (pacS c t τ) := by
  unfold mX9_paceOf pacS
  simp only [rThere h, rPlace0 h, rPlace1 h, rAmt, rMor, ob_q, bI_0]
  by_cases h1 : τ = 0 <;> by_cases h2 : isT c t τ = false <;> by_cases h3 : isT c t (τ - 1) = false <;> simp [h1, h2, h3]
/-! colours -/
def latP (tm : Nat → Int32) (p : Nat → Bool) (τ : Int32) (a : Option Nat) (k : Nat) : Option Nat := if p k && decide (tm k ≤ τ) && a.elim true (fun b => decide (tm b ≤ tm k)) then some k else a
theorem latP_lt {tm : Nat → Int32} {p : Nat → Bool} {τ : Int32} {l : List Nat} {n : Nat} (hl : ∀ k ∈ l, k < n) : ∀ {a : Option Nat}, (∀ q, a = some q → q < n) → ∀ q, l.foldl (latP tm p τ) a = some q → q < n := by
  induction l with
  | nil => intro a ha q hq; exact ha q hq
  | cons x l ih =>
    intro a ha q hq
    refine ih (fun k hk => hl k (List.mem_cons_of_mem _ hk)) ?_ q hq
    intro q' hq'
    unfold latP at hq'
    split at hq'
    · cases hq'; exact hl _ List.mem_cons_self
    · exact ha _ hq'
theorem latP_p {tm : Nat → Int32} {p : Nat → Bool} {τ : Int32} {l : List Nat} : ∀ {a : Option Nat}, (∀ q, a = some q → p q = true) → ∀ q, l.foldl (latP tm p τ) a = some q → p q = true := by
  induction l with
  | nil => intro a ha q hq; exact ha q hq
  | cons x l ih =>
    intro a ha q hq
    refine ih ?_ q hq
    intro q' hq'
    unfold latP at hq'
    split at hq'
    · rename_i hc; cases hq'; simp only [Bool.and_eq_true] at hc; exact hc.1.1
    · exact ha _ hq'
def colO (c : SV) (t τ : Int32) : Option Nat := (List.range (sN c)).foldl (latP (fun k => sC c k 2) (fun k => decide (sC c k 0 = 4) && decide (sC c k 1 = t)) τ) none
theorem colO_lt {c : SV} {t τ : Int32} {q : Nat} (h : colO c t τ = some q) : q < sN c := latP_lt (fun k hk => List.mem_range.mp hk) (fun q h => by cases h) q h
def colS (c : SV) (t τ : Int32) : Int32 := (colO c t τ).elim (sH c t.toNatClampNeg 0) fun q => sC c q 3
theorem rCol {u : HS} {s : Nat} {c : SV} (h : RS u s c) {t : Nat} (ht : t < sT c) (τ : Int32) : mX9_colourOf u (nI s) (nI t) τ = some (colS c (nI t) τ) := by
  obtain ⟨hs, hn, hT, hm, -, hC, hH⟩ := h
  unfold mX9_colourOf
  simp only [bd_q, jp_q]
  rw [n24]
  refine (loopG0 (L := fun fu a x => mX9_colourOf_L9 (nI s) u (nI t) τ _ fu (oJ (24 * s) a) x) (w := fun a => some (a.elim (sH c t 0) fun q => sC c q 3)) (latP (fun k => sC c k 2) (fun k => decide (sC c k 0 = 4) && decide (sC c k 1 = nI t)) τ) (fun a => ∀ q, a = some q → q < sN c) (n := sN c) (FU_lt (by omega)) (fun q h => by cases h) ?_ ?_ ?_ (a := none)).trans ?_
  · intro fu a k hk ha
    show mX9_colourOf_L9 (nI s) u (nI t) τ _ (fu + 1) (oJ (24 * s) a) (nI (24 * s + k)) = mX9_colourOf_L9 (nI s) u (nI t) τ _ fu (oJ (24 * s) (latP _ _ τ a k)) (nI (24 * s + k + 1))
    rw [mX9_colourOf_L9.eq_2, ck_nI hs (by decide)]
    simp only [bd_q, jp_q, ob_q, n24, hm, nI_add, nI_1]
    rw [if_neg (nI_ge (by omega) (by omega)), ck_nI (show 24 * s + k < 144 by omega) (by decide)]
    simp only [c8_0, c8_1, c8_2, c8_5, ob_q, hC k _ (by omega)]
    unfold latP
    cases a with
    | none => by_cases h1 : sC c k 0 = 4 <;> by_cases h2 : sC c k 1 = nI t <;> by_cases h3 : sC c k 2 ≤ τ <;> simp [h1, h2, h3, oJ, ← Int32.not_le]
    | some b =>
      have hb := ha b rfl
      have e1 : ¬ nI (24 * s + b) = -1 := nI_m1 (by omega)
      have e2 : ck 144 (nI (24 * s + b)) = some (24 * s + b) := ck_nI (by omega) (by decide)
      by_cases h1 : sC c k 0 = 4 <;> by_cases h2 : sC c k 1 = nI t <;> by_cases h3 : sC c k 2 ≤ τ <;> by_cases h4 : sC c b 2 ≤ sC c k 2 <;> simp [h1, h2, h3, h4, oJ, ← Int32.not_le, e1, e2, hC b _ (show b < 24 by omega)]
  · intro a k hk ha q hq
    unfold latP at hq
    split at hq
    · cases hq; exact hk
    · exact ha q hq
  · intro fu a ha
    show mX9_colourOf_L9 (nI s) u (nI t) τ _ (fu + 1) (oJ (24 * s) a) (nI (24 * s + sN c)) = _
    rw [mX9_colourOf_L9.eq_2, ck_nI hs (by decide)]
    simp only [ob_q, n24, hm, nI_add]
    rw [if_pos (nI_le (Nat.le_refl _) (by omega))]
    cases a with
    | none =>
      simp only [oJ, if_true, n8, nI_add, Option.elim]
      rw [ck_nI (show 8 * s + t < 48 by omega) (by decide)]
      simp only [ob_q, c2_0, hH t _ (show t < 8 by omega)]
    | some b =>
      have hb := ha b rfl
      rw [if_neg (show ¬ oJ (24 * s) (some b) = -1 from nI_m1 (by omega)), show oJ (24 * s) (some b) = nI (24 * s + b) from rfl, ck_nI (show 24 * s + b < 144 by omega) (by decide)]
      simp only [ob_q, c8_3, hC b _ (show b < 24 by omega), Option.elim]
  · unfold colS colO
    rw [nI_clamp (by omega)]
/-! the rest -/
def chgS (c : SV) (t τ : Int32) : Bool := (List.range (sN c)).any fun k => decide (sC c k 0 = 4) && decide (sC c k 1 = t) && decide (τ - 9 ≤ sC c k 2) && decide (sC c k 2 ≤ τ)
theorem rChg {u : HS} {s : Nat} {c : SV} (h : RS u s c) (t τ : Int32) : mX9_isChanged u (nI s) t τ = some (bI (chgS c t τ)) := by
  obtain ⟨hs, hn, hT, hm, -, hC, hH⟩ := h
  unfold mX9_isChanged
  simp only [bd_q, jp_q]
  rw [n24]
  refine (loopA0 (L := fun fu x => mX9_isChanged_L6 (nI s) u t τ (some 0) fu x) (no := some 0) (yes := some 1) (fun k => decide (sC c k 0 = 4) && decide (sC c k 1 = t) && decide (τ - 9 ≤ sC c k 2) && decide (sC c k 2 ≤ τ)) (n := sN c) (FU_lt (by omega)) ?_ ?_).trans ?_
  · intro fu k hk
    show mX9_isChanged_L6 (nI s) u t τ (some 0) (fu + 1) (nI (24 * s + k)) = if _ then _ else mX9_isChanged_L6 (nI s) u t τ (some 0) fu (nI (24 * s + k + 1))
    rw [mX9_isChanged_L6.eq_2, ck_nI hs (by decide)]
    simp only [bd_q, jp_q, ob_q, n24, hm, nI_add, nI_1]
    rw [if_neg (nI_ge (by omega) (by omega)), ck_nI (show 24 * s + k < 144 by omega) (by decide)]
    simp only [c8_0, c8_1, c8_2, ob_q, hC k _ (by omega), in_ok, bI_0]
    by_cases h1 : sC c k 0 = 4 <;> by_cases h2 : sC c k 1 = t <;> by_cases h3 : τ - 9 ≤ sC c k 2 <;> by_cases h4 : sC c k 2 ≤ τ <;> simp [h1, h2, h3, h4]
  · intro fu
    show mX9_isChanged_L6 (nI s) u t τ (some 0) (fu + 1) (nI (24 * s + sN c)) = _
    rw [mX9_isChanged_L6.eq_2, ck_nI hs (by decide)]
    simp only [ob_q, n24, hm, nI_add]
    rw [if_pos (nI_le (Nat.le_refl _) (by omega))]
  · unfold chgS
    cases (List.range (sN c)).any _ <;> rfl
def numS (c : SV) (x : Int32) : Int32 := (List.range (sN c)).foldl (fun a k => a + bI (decide (sC c k 0 = x))) 0
theorem rNum {u : HS} {s : Nat} {c : SV} (h : RS u s c) (x : Int32) : mX9_countOf u (nI s) x = some (numS c x) := by
  obtain ⟨hs, hn, hT, hm, -, hC, hH⟩ := h
  unfold mX9_countOf
  simp only [bd_q, jp_q]
  rw [n24]
  refine (loopF0 (L := fun fu a y => mX9_countOf_L8 (nI s) u x (fun a => some a) fu a y) (w := fun a => some a) (fun a k => a + bI (decide (sC c k 0 = x))) (n := sN c) (FU_lt (by omega)) ?_ ?_ (a := 0) :)
  · intro fu a k hk
    show mX9_countOf_L8 (nI s) u x _ (fu + 1) a (nI (24 * s + k)) = mX9_countOf_L8 (nI s) u x _ fu _ (nI (24 * s + k + 1))
    rw [mX9_countOf_L8.eq_2, ck_nI hs (by decide)]
    simp only [bd_q, jp_q, ob_q, n24, hm, nI_add, nI_1]
    rw [if_neg (nI_ge (by omega) (by omega)), ck_nI (show 24 * s + k < 144 by omega) (by decide)]
    simp only [c8_0, ob_q, hC k _ (by omega)]
    by_cases h1 : sC c k 0 = x <;> simp [h1, bI]
  · intro fu a
    show mX9_countOf_L8 (nI s) u x _ (fu + 1) a (nI (24 * s + sN c)) = _
    rw [mX9_countOf_L8.eq_2, ck_nI hs (by decide)]
    simp only [ob_q, n24, hm, nI_add]
    rw [if_pos (nI_le (Nat.le_refl _) (by omega))]
def endF (c : SV) (a : Int32) (k : Nat) : Int32 := if sC c k 0 = 1 then mor a (sC c k 5) else a
def endS (c : SV) : Int32 := (List.range (sN c)).foldl (endF c) 0
theorem rEnd {u : HS} {s : Nat} {c : SV} (h : RS u s c) : mX9_endOf u (nI s) = some (endS c) := by
  obtain ⟨hs, hn, hT, hm, -, hC, hH⟩ := h
  unfold mX9_endOf
  simp only [bd_q, jp_q]
  rw [n24]
  refine (loopF0 (L := fun fu a y => mX9_endOf_L7 (nI s) u (fun a => some a) fu a y) (w := fun a => some a) (endF c) (n := sN c) (FU_lt (by omega)) ?_ ?_ (a := 0) :)
  · intro fu a k hk
    show mX9_endOf_L7 (nI s) u _ (fu + 1) a (nI (24 * s + k)) = mX9_endOf_L7 (nI s) u _ fu _ (nI (24 * s + k + 1))
    rw [mX9_endOf_L7.eq_2, ck_nI hs (by decide)]
    simp only [bd_q, jp_q, ob_q, n24, hm, nI_add, nI_1]
    rw [if_neg (nI_ge (by omega) (by omega)), ck_nI (show 24 * s + k < 144 by omega) (by decide)]
    simp only [c8_0, c8_5, ob_q, hC k _ (by omega), rMor]
    unfold endF
    by_cases h1 : sC c k 0 = 1 <;> simp [h1]
  · intro fu a
    show mX9_endOf_L7 (nI s) u _ (fu + 1) a (nI (24 * s + sN c)) = _
    rw [mX9_endOf_L7.eq_2, ck_nI hs (by decide)]
    simp only [ob_q, n24, hm, nI_add]
    rw [if_pos (nI_le (Nat.le_refl _) (by omega))]
def oddF (c : SV) (a : Int32) (k : Nat) : Int32 := if sC c k 0 = 3 then sC c k 1 else a
def oddS (c : SV) : Int32 := (List.range (sN c)).foldl (oddF c) (-1)
theorem rOdd {u : HS} {s : Nat} {c : SV} (h : RS u s c) : mX9_oddOf u (nI s) = some (oddS c) := by
  obtain ⟨hs, hn, hT, hm, -, hC, hH⟩ := h
  unfold mX9_oddOf
  simp only [bd_q, jp_q]
  rw [n24]
  refine (loopF0 (L := fun fu a y => mX9_oddOf_L7 (nI s) u (fun a => some a) fu a y) (w := fun a => some a) (oddF c) (n := sN c) (FU_lt (by omega)) ?_ ?_ (a := -1) :)
  · intro fu a k hk
    show mX9_oddOf_L7 (nI s) u _ (fu + 1) a (nI (24 * s + k)) = mX9_oddOf_L7 (nI s) u _ fu _ (nI (24 * s + k + 1))
    rw [mX9_oddOf_L7.eq_2, ck_nI hs (by decide)]
    simp only [bd_q, jp_q, ob_q, n24, hm, nI_add, nI_1]
    rw [if_neg (nI_ge (by omega) (by omega)), ck_nI (show 24 * s + k < 144 by omega) (by decide)]
    simp only [c8_0, c8_1, ob_q, hC k _ (by omega)]
    unfold oddF
    by_cases h1 : sC c k 0 = 3 <;> simp [h1]
  · intro fu a
    show mX9_oddOf_L7 (nI s) u _ (fu + 1) a (nI (24 * s + sN c)) = _
    rw [mX9_oddOf_L7.eq_2, ck_nI hs (by decide)]
    simp only [ob_q, n24, hm, nI_add]
    rw [if_pos (nI_le (Nat.le_refl _) (by omega))]
def trnS (c : SV) : Int32 := ((List.range (sN c)).find? fun k => decide (sC c k 0 = 4)).elim (-1) fun k => sC c k 1
theorem rTrn {u : HS} {s : Nat} {c : SV} (h : RS u s c) : mX9_turnsOf u (nI s) = some (trnS c) := by
  obtain ⟨hs, hn, hT, hm, -, hC, hH⟩ := h
  unfold mX9_turnsOf
  simp only [bd_q, jp_q]
  rw [n24]
  refine (loopV0 (L := fun fu y => mX9_turnsOf_L5 (nI s) u (some (-1)) fu y) (no := some (-1)) (fun k => some (sC c k 1)) (fun k => decide (sC c k 0 = 4)) (n := sN c) (FU_lt (by omega)) ?_ ?_).trans ?_
  · intro fu k hk
    show mX9_turnsOf_L5 (nI s) u _ (fu + 1) (nI (24 * s + k)) = if _ then _ else mX9_turnsOf_L5 (nI s) u _ fu (nI (24 * s + k + 1))
    rw [mX9_turnsOf_L5.eq_2, ck_nI hs (by decide)]
    simp only [bd_q, jp_q, ob_q, n24, hm, nI_add, nI_1]
    rw [if_neg (nI_ge (by omega) (by omega)), ck_nI (show 24 * s + k < 144 by omega) (by decide)]
    simp only [c8_0, c8_1, ob_q, hC k _ (by omega)]
    by_cases h1 : sC c k 0 = 4 <;> simp [h1]
  · intro fu
    show mX9_turnsOf_L5 (nI s) u _ (fu + 1) (nI (24 * s + sN c)) = _
    rw [mX9_turnsOf_L5.eq_2, ck_nI hs (by decide)]
    simp only [ob_q, n24, hm, nI_add]
    rw [if_pos (nI_le (Nat.le_refl _) (by omega))]
  · unfold trnS
    cases (List.range (sN c)).find? _ <;> rfl
/-! throws that count -/
def cntP (c : SV) (x : Int32) (k : Nat) : Bool := decide (sC c k 0 = 2) && decide (x ≠ -1) && decide (colS c (sC c k 1) (sC c k 3) = x)
theorem rCnt {u : HS} {s : Nat} {c : SV} (h : RS u s c) (hc : SWF c) {t : Nat} (ht : t < 6) {k : Nat} (hk : k < sN c) : mX9_isCounted u (nI s) (nI t) (24 * s + k) = some (bI (cntP c (gI u 71 t 2) k)) := by
  have h' := h
  obtain ⟨hs, hn, hT, hm, -, hC, hH⟩ := h
  unfold mX9_isCounted cntP
  simp only [c8_0, c8_1, c8_3, c5_2, ck_nI ht (show 6 < 2 ^ 31 by decide), ob_q, hC k _ (show k < 24 by omega)]
  by_cases h2 : sC c k 0 = 2
  · obtain ⟨⟨z, hz, e1⟩, -, -⟩ := hc.k2 hk h2
    rw [e1, rCol h' hz]
    simp only [ob_q]
    by_cases h3 : gI u 71 t 2 = -1 <;> by_cases h4 : colS c (nI z) (sC c k 3) = gI u 71 t 2 <;> simp [h2, h3, h4, bI]
  · simp [h2, bI]
def thrS (c : SV) (x : Int32) : Int32 := (List.range (sN c)).foldl (fun a k => a + bI (cntP c x k)) 0
theorem rThr {u : HS} {s : Nat} {c : SV} (h : RS u s c) (hc : SWF c) {t : Nat} (ht : t < 6) : mX9_throwsBy u (nI s) (nI t) = some (thrS c (gI u 71 t 2)) := by
  have h' := h
  obtain ⟨hs, hn, hT, hm, -, hC, hH⟩ := h
  unfold mX9_throwsBy
  simp only [bd_q, jp_q]
  rw [n24]
  refine (loopF0 (L := fun fu a y => mX9_throwsBy_L8 (nI s) u (nI t) (fun a => some a) fu a y) (w := fun a => some a) (fun a k => a + bI (cntP c (gI u 71 t 2) k)) (n := sN c) (FU_lt (by omega)) ?_ ?_ (a := 0) :)
  · intro fu a k hk
    show mX9_throwsBy_L8 (nI s) u (nI t) _ (fu + 1) a (nI (24 * s + k)) = mX9_throwsBy_L8 (nI s) u (nI t) _ fu _ (nI (24 * s + k + 1))
    rw [mX9_throwsBy_L8.eq_2, ck_nI hs (by decide)]
    simp only [bd_q, jp_q, ob_q, n24, hm, nI_add, nI_1]
    rw [if_neg (nI_ge (by omega) (by omega)), ck_nI (show 24 * s + k < 144 by omega) (by decide)]
    simp only [ob_q, rCnt h' hc ht hk, bI_n]
  · intro fu a
    show mX9_throwsBy_L8 (nI s) u (nI t) _ (fu + 1) a (nI (24 * s + sN c)) = _
    rw [mX9_throwsBy_L8.eq_2, ck_nI hs (by decide)]
    simp only [ob_q, n24, hm, nI_add]
    rw [if_pos (nI_le (Nat.le_refl _) (by omega))]
