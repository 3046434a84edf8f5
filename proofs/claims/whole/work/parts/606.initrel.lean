/-! ===== the world behind the constructors ===== -/
def fAin : Nat → Nat → Prop := aA (cA9 (aA (aA8 (aA (fun _ _ => False) 8 0)) 9 0)) 90 0
def fPin : Nat → Nat → Nat → Prop := aP (cP9 (aP (aP8 (aP (fun _ _ _ => False) 8 0 (fun k9 => k9 < nfS 8 ∧ fcode 8 k9 = 0 ∧ iniV 8 k9 = 0))) 9 0 (fun k9 => k9 < nfS 9 ∧ fcode 9 k9 = 0 ∧ iniV 9 k9 = 0))) 90 0 (fun _ => True)
set_option maxHeartbeats 4000000 in
set_option maxRecDepth 100000 in
theorem ini_A : ∀ r i, lvS σ0 r i → fAin r i := by
  intro r i hl
  have h1 := hl.1
  match r, h1, hl with
  | 0, h1, _ =>
    rcases (show i = 0 ∨ i = 1 ∨ i = 2 ∨ i = 3 by have h2 : i < 4 := h1; omega) with rfl | rfl | rfl | rfl
    · simp [fAin, aA8, aA, cA, cA2, cA7, fA, cA9]
    · simp [fAin, aA8, aA, cA, cA2, cA7, fA, cA9]
    · simp [fAin, aA8, aA, cA, cA2, cA7, fA, cA9]
    · simp [fAin, aA8, aA, cA, cA2, cA7, fA, cA9]
  | 1, h1, _ =>
    rcases (show i = 0 ∨ i = 1 ∨ i = 2 ∨ i = 3 ∨ i = 4 by have h2 : i < 5 := h1; omega) with rfl | rfl | rfl | rfl | rfl
    · simp [fAin, aA8, aA, cA, cA2, cA7, fA, cA9]
    · simp [fAin, aA8, aA, cA, cA2, cA7, fA, cA9]
    · simp [fAin, aA8, aA, cA, cA2, cA7, fA, cA9]
    · simp [fAin, aA8, aA, cA, cA2, cA7, fA, cA9]
    · simp [fAin, aA8, aA, cA, cA2, cA7, fA, cA9]
  | 2, h1, _ =>
    rcases (show i = 0 by have h2 : i < 1 := h1; omega) with rfl
    · simp [fAin, aA8, aA, cA, cA2, cA7, fA, cA9]
  | 3, h1, _ =>
    rcases (show i = 0 ∨ i = 1 ∨ i = 2 ∨ i = 3 ∨ i = 4 ∨ i = 5 ∨ i = 6 by have h2 : i < 7 := h1; omega) with rfl | rfl | rfl | rfl | rfl | rfl | rfl
    · simp [fAin, aA8, aA, cA, cA2, cA7, fA, cA9]
    · simp [fAin, aA8, aA, cA, cA2, cA7, fA, cA9]
    · simp [fAin, aA8, aA, cA, cA2, cA7, fA, cA9]
    · simp [fAin, aA8, aA, cA, cA2, cA7, fA, cA9]
    · simp [fAin, aA8, aA, cA, cA2, cA7, fA, cA9]
    · simp [fAin, aA8, aA, cA, cA2, cA7, fA, cA9]
    · simp [fAin, aA8, aA, cA, cA2, cA7, fA, cA9]
  | 4, h1, _ =>
    rcases (show i = 0 by have h2 : i < 1 := h1; omega) with rfl
    · simp [fAin, aA8, aA, cA, cA2, cA7, fA, cA9]
  | 5, h1, _ =>
    rcases (show i = 0 by have h2 : i < 1 := h1; omega) with rfl
    · simp [fAin, aA8, aA, cA, cA2, cA7, fA, cA9]
  | 6, h1, _ =>
    rcases (show i = 0 ∨ i = 1 ∨ i = 2 ∨ i = 3 ∨ i = 4 ∨ i = 5 ∨ i = 6 by have h2 : i < 7 := h1; omega) with rfl | rfl | rfl | rfl | rfl | rfl | rfl
    · simp [fAin, aA8, aA, cA, cA2, cA7, fA, cA9]
    · simp [fAin, aA8, aA, cA, cA2, cA7, fA, cA9]
    · simp [fAin, aA8, aA, cA, cA2, cA7, fA, cA9]
    · simp [fAin, aA8, aA, cA, cA2, cA7, fA, cA9]
    · simp [fAin, aA8, aA, cA, cA2, cA7, fA, cA9]
    · simp [fAin, aA8, aA, cA, cA2, cA7, fA, cA9]
    · simp [fAin, aA8, aA, cA, cA2, cA7, fA, cA9]
  | 7, h1, _ =>
    rcases (show i = 0 by have h2 : i < 1 := h1; omega) with rfl
    · simp [fAin, aA8, aA, cA, cA2, cA7, fA, cA9]
  | 8, h1, _ =>
    rcases (show i = 0 by have h2 : i < 1 := h1; omega) with rfl
    · simp [fAin, aA8, aA, cA, cA2, cA7, fA, cA9]
  | 9, h1, _ =>
    rcases (show i = 0 by have h2 : i < 1 := h1; omega) with rfl
    · simp [fAin, aA8, aA, cA, cA2, cA7, fA, cA9]
  | 10, h1, _ => exact absurd (show i < 0 from h1) (Nat.not_lt_zero _)
  | 11, h1, _ => exact absurd (show i < 0 from h1) (Nat.not_lt_zero _)
  | 12, h1, _ => exact absurd (show i < 0 from h1) (Nat.not_lt_zero _)
  | 13, h1, _ => exact absurd (show i < 0 from h1) (Nat.not_lt_zero _)
  | 14, h1, _ => exact absurd (show i < 0 from h1) (Nat.not_lt_zero _)
  | 15, h1, _ => exact absurd (show i < 0 from h1) (Nat.not_lt_zero _)
  | 16, h1, _ => exact absurd (show i < 0 from h1) (Nat.not_lt_zero _)
  | 17, h1, _ => exact absurd (show i < 0 from h1) (Nat.not_lt_zero _)
  | 18, h1, _ => exact absurd (show i < 0 from h1) (Nat.not_lt_zero _)
  | 19, h1, _ => exact absurd (show i < 0 from h1) (Nat.not_lt_zero _)
  | 20, h1, _ =>
    rcases (show i = 0 ∨ i = 1 ∨ i = 2 ∨ i = 3 by have h2 : i < 4 := h1; omega) with rfl | rfl | rfl | rfl
    · simp [fAin, aA8, aA, cA, cA2, cA7, fA, cA9]
    · simp [fAin, aA8, aA, cA, cA2, cA7, fA, cA9]
    · simp [fAin, aA8, aA, cA, cA2, cA7, fA, cA9]
    · simp [fAin, aA8, aA, cA, cA2, cA7, fA, cA9]
  | 21, h1, _ =>
    rcases (show i = 0 ∨ i = 1 ∨ i = 2 ∨ i = 3 by have h2 : i < 4 := h1; omega) with rfl | rfl | rfl | rfl
    · simp [fAin, aA8, aA, cA, cA2, cA7, fA, cA9]
    · simp [fAin, aA8, aA, cA, cA2, cA7, fA, cA9]
    · simp [fAin, aA8, aA, cA, cA2, cA7, fA, cA9]
    · simp [fAin, aA8, aA, cA, cA2, cA7, fA, cA9]
  | 22, h1, _ =>
    rcases (show i = 0 ∨ i = 1 ∨ i = 2 ∨ i = 3 by have h2 : i < 4 := h1; omega) with rfl | rfl | rfl | rfl
    · simp [fAin, aA8, aA, cA, cA2, cA7, fA, cA9]
    · simp [fAin, aA8, aA, cA, cA2, cA7, fA, cA9]
    · simp [fAin, aA8, aA, cA, cA2, cA7, fA, cA9]
    · simp [fAin, aA8, aA, cA, cA2, cA7, fA, cA9]
  | 23, h1, _ =>
    rcases (show i = 0 ∨ i = 1 ∨ i = 2 ∨ i = 3 by have h2 : i < 4 := h1; omega) with rfl | rfl | rfl | rfl
    · simp [fAin, aA8, aA, cA, cA2, cA7, fA, cA9]
    · simp [fAin, aA8, aA, cA, cA2, cA7, fA, cA9]
    · simp [fAin, aA8, aA, cA, cA2, cA7, fA, cA9]
    · simp [fAin, aA8, aA, cA, cA2, cA7, fA, cA9]
  | 24, h1, _ =>
    rcases (show i = 0 ∨ i = 1 ∨ i = 2 ∨ i = 3 by have h2 : i < 4 := h1; omega) with rfl | rfl | rfl | rfl
    · simp [fAin, aA8, aA, cA, cA2, cA7, fA, cA9]
    · simp [fAin, aA8, aA, cA, cA2, cA7, fA, cA9]
    · simp [fAin, aA8, aA, cA, cA2, cA7, fA, cA9]
    · simp [fAin, aA8, aA, cA, cA2, cA7, fA, cA9]
  | 25, h1, _ =>
    rcases (show i = 0 ∨ i = 1 ∨ i = 2 ∨ i = 3 by have h2 : i < 4 := h1; omega) with rfl | rfl | rfl | rfl
    · simp [fAin, aA8, aA, cA, cA2, cA7, fA, cA9]
    · simp [fAin, aA8, aA, cA, cA2, cA7, fA, cA9]
    · simp [fAin, aA8, aA, cA, cA2, cA7, fA, cA9]
    · simp [fAin, aA8, aA, cA, cA2, cA7, fA, cA9]
  | 26, h1, _ =>
    rcases (show i = 0 ∨ i = 1 ∨ i = 2 ∨ i = 3 by have h2 : i < 4 := h1; omega) with rfl | rfl | rfl | rfl
    · simp [fAin, aA8, aA, cA, cA2, cA7, fA, cA9]
    · simp [fAin, aA8, aA, cA, cA2, cA7, fA, cA9]
    · simp [fAin, aA8, aA, cA, cA2, cA7, fA, cA9]
    · simp [fAin, aA8, aA, cA, cA2, cA7, fA, cA9]
  | 27, h1, _ =>
    rcases (show i = 0 ∨ i = 1 ∨ i = 2 ∨ i = 3 by have h2 : i < 4 := h1; omega) with rfl | rfl | rfl | rfl
    · simp [fAin, aA8, aA, cA, cA2, cA7, fA, cA9]
    · simp [fAin, aA8, aA, cA, cA2, cA7, fA, cA9]
    · simp [fAin, aA8, aA, cA, cA2, cA7, fA, cA9]
    · simp [fAin, aA8, aA, cA, cA2, cA7, fA, cA9]
  | 28, h1, _ =>
    rcases (show i = 0 ∨ i = 1 ∨ i = 2 ∨ i = 3 by have h2 : i < 4 := h1; omega) with rfl | rfl | rfl | rfl
    · simp [fAin, aA8, aA, cA, cA2, cA7, fA, cA9]
    · simp [fAin, aA8, aA, cA, cA2, cA7, fA, cA9]
    · simp [fAin, aA8, aA, cA, cA2, cA7, fA, cA9]
    · simp [fAin, aA8, aA, cA, cA2, cA7, fA, cA9]
  | 29, h1, _ =>
    rcases (show i = 0 ∨ i = 1 ∨ i = 2 ∨ i = 3 by have h2 : i < 4 := h1; omega) with rfl | rfl | rfl | rfl
    · simp [fAin, aA8, aA, cA, cA2, cA7, fA, cA9]
    · simp [fAin, aA8, aA, cA, cA2, cA7, fA, cA9]
    · simp [fAin, aA8, aA, cA, cA2, cA7, fA, cA9]
    · simp [fAin, aA8, aA, cA, cA2, cA7, fA, cA9]
  | 30, h1, _ =>
    rcases (show i = 0 ∨ i = 1 ∨ i = 2 ∨ i = 3 by have h2 : i < 4 := h1; omega) with rfl | rfl | rfl | rfl
    · simp [fAin, aA8, aA, cA, cA2, cA7, fA, cA9]
    · simp [fAin, aA8, aA, cA, cA2, cA7, fA, cA9]
    · simp [fAin, aA8, aA, cA, cA2, cA7, fA, cA9]
    · simp [fAin, aA8, aA, cA, cA2, cA7, fA, cA9]
  | 31, h1, _ =>
    rcases (show i = 0 ∨ i = 1 ∨ i = 2 ∨ i = 3 by have h2 : i < 4 := h1; omega) with rfl | rfl | rfl | rfl
    · simp [fAin, aA8, aA, cA, cA2, cA7, fA, cA9]
    · simp [fAin, aA8, aA, cA, cA2, cA7, fA, cA9]
    · simp [fAin, aA8, aA, cA, cA2, cA7, fA, cA9]
    · simp [fAin, aA8, aA, cA, cA2, cA7, fA, cA9]
  | 32, h1, _ =>
    rcases (show i = 0 ∨ i = 1 ∨ i = 2 ∨ i = 3 ∨ i = 4 by have h2 : i < 5 := h1; omega) with rfl | rfl | rfl | rfl | rfl
    · simp [fAin, aA8, aA, cA, cA2, cA7, fA, cA9]
    · simp [fAin, aA8, aA, cA, cA2, cA7, fA, cA9]
    · simp [fAin, aA8, aA, cA, cA2, cA7, fA, cA9]
    · simp [fAin, aA8, aA, cA, cA2, cA7, fA, cA9]
    · simp [fAin, aA8, aA, cA, cA2, cA7, fA, cA9]
  | 33, h1, _ =>
    rcases (show i = 0 ∨ i = 1 ∨ i = 2 ∨ i = 3 ∨ i = 4 by have h2 : i < 5 := h1; omega) with rfl | rfl | rfl | rfl | rfl
    · simp [fAin, aA8, aA, cA, cA2, cA7, fA, cA9]
    · simp [fAin, aA8, aA, cA, cA2, cA7, fA, cA9]
    · simp [fAin, aA8, aA, cA, cA2, cA7, fA, cA9]
    · simp [fAin, aA8, aA, cA, cA2, cA7, fA, cA9]
    · simp [fAin, aA8, aA, cA, cA2, cA7, fA, cA9]
  | 34, h1, _ =>
    rcases (show i = 0 ∨ i = 1 ∨ i = 2 ∨ i = 3 ∨ i = 4 by have h2 : i < 5 := h1; omega) with rfl | rfl | rfl | rfl | rfl
    · simp [fAin, aA8, aA, cA, cA2, cA7, fA, cA9]
    · simp [fAin, aA8, aA, cA, cA2, cA7, fA, cA9]
    · simp [fAin, aA8, aA, cA, cA2, cA7, fA, cA9]
    · simp [fAin, aA8, aA, cA, cA2, cA7, fA, cA9]
    · simp [fAin, aA8, aA, cA, cA2, cA7, fA, cA9]
  | 35, h1, _ =>
    rcases (show i = 0 ∨ i = 1 ∨ i = 2 ∨ i = 3 ∨ i = 4 by have h2 : i < 5 := h1; omega) with rfl | rfl | rfl | rfl | rfl
    · simp [fAin, aA8, aA, cA, cA2, cA7, fA, cA9]
    · simp [fAin, aA8, aA, cA, cA2, cA7, fA, cA9]
    · simp [fAin, aA8, aA, cA, cA2, cA7, fA, cA9]
    · simp [fAin, aA8, aA, cA, cA2, cA7, fA, cA9]
    · simp [fAin, aA8, aA, cA, cA2, cA7, fA, cA9]
  | 36, h1, _ =>
    rcases (show i = 0 ∨ i = 1 ∨ i = 2 ∨ i = 3 ∨ i = 4 by have h2 : i < 5 := h1; omega) with rfl | rfl | rfl | rfl | rfl
    · simp [fAin, aA8, aA, cA, cA2, cA7, fA, cA9]
    · simp [fAin, aA8, aA, cA, cA2, cA7, fA, cA9]
    · simp [fAin, aA8, aA, cA, cA2, cA7, fA, cA9]
    · simp [fAin, aA8, aA, cA, cA2, cA7, fA, cA9]
    · simp [fAin, aA8, aA, cA, cA2, cA7, fA, cA9]
  | 37, h1, _ =>
    rcases (show i = 0 ∨ i = 1 ∨ i = 2 ∨ i = 3 ∨ i = 4 ∨ i = 5 ∨ i = 6 by have h2 : i < 7 := h1; omega) with rfl | rfl | rfl | rfl | rfl | rfl | rfl
    · simp [fAin, aA8, aA, cA, cA2, cA7, fA, cA9]
    · simp [fAin, aA8, aA, cA, cA2, cA7, fA, cA9]
    · simp [fAin, aA8, aA, cA, cA2, cA7, fA, cA9]
    · simp [fAin, aA8, aA, cA, cA2, cA7, fA, cA9]
    · simp [fAin, aA8, aA, cA, cA2, cA7, fA, cA9]
    · simp [fAin, aA8, aA, cA, cA2, cA7, fA, cA9]
    · simp [fAin, aA8, aA, cA, cA2, cA7, fA, cA9]
  | 38, h1, _ =>
    rcases (show i = 0 ∨ i = 1 ∨ i = 2 ∨ i = 3 ∨ i = 4 ∨ i = 5 ∨ i = 6 by have h2 : i < 7 := h1; omega) with rfl | rfl | rfl | rfl | rfl | rfl | rfl
    · simp [fAin, aA8, aA, cA, cA2, cA7, fA, cA9]
    · simp [fAin, aA8, aA, cA, cA2, cA7, fA, cA9]
    · simp [fAin, aA8, aA, cA, cA2, cA7, fA, cA9]
    · simp [fAin, aA8, aA, cA, cA2, cA7, fA, cA9]
    · simp [fAin, aA8, aA, cA, cA2, cA7, fA, cA9]
    · simp [fAin, aA8, aA, cA, cA2, cA7, fA, cA9]
    · simp [fAin, aA8, aA, cA, cA2, cA7, fA, cA9]
  | 39, h1, _ =>
    rcases (show i = 0 ∨ i = 1 ∨ i = 2 ∨ i = 3 ∨ i = 4 ∨ i = 5 ∨ i = 6 by have h2 : i < 7 := h1; omega) with rfl | rfl | rfl | rfl | rfl | rfl | rfl
    · simp [fAin, aA8, aA, cA, cA2, cA7, fA, cA9]
    · simp [fAin, aA8, aA, cA, cA2, cA7, fA, cA9]
    · simp [fAin, aA8, aA, cA, cA2, cA7, fA, cA9]
    · simp [fAin, aA8, aA, cA, cA2, cA7, fA, cA9]
    · simp [fAin, aA8, aA, cA, cA2, cA7, fA, cA9]
    · simp [fAin, aA8, aA, cA, cA2, cA7, fA, cA9]
    · simp [fAin, aA8, aA, cA, cA2, cA7, fA, cA9]
  | 40, h1, _ =>
    rcases (show i = 0 ∨ i = 1 ∨ i = 2 ∨ i = 3 ∨ i = 4 ∨ i = 5 ∨ i = 6 by have h2 : i < 7 := h1; omega) with rfl | rfl | rfl | rfl | rfl | rfl | rfl
    · simp [fAin, aA8, aA, cA, cA2, cA7, fA, cA9]
    · simp [fAin, aA8, aA, cA, cA2, cA7, fA, cA9]
    · simp [fAin, aA8, aA, cA, cA2, cA7, fA, cA9]
    · simp [fAin, aA8, aA, cA, cA2, cA7, fA, cA9]
    · simp [fAin, aA8, aA, cA, cA2, cA7, fA, cA9]
    · simp [fAin, aA8, aA, cA, cA2, cA7, fA, cA9]
    · simp [fAin, aA8, aA, cA, cA2, cA7, fA, cA9]
  | 41, h1, _ =>
    rcases (show i = 0 ∨ i = 1 ∨ i = 2 ∨ i = 3 ∨ i = 4 ∨ i = 5 ∨ i = 6 by have h2 : i < 7 := h1; omega) with rfl | rfl | rfl | rfl | rfl | rfl | rfl
    · simp [fAin, aA8, aA, cA, cA2, cA7, fA, cA9]
    · simp [fAin, aA8, aA, cA, cA2, cA7, fA, cA9]
    · simp [fAin, aA8, aA, cA, cA2, cA7, fA, cA9]
    · simp [fAin, aA8, aA, cA, cA2, cA7, fA, cA9]
    · simp [fAin, aA8, aA, cA, cA2, cA7, fA, cA9]
    · simp [fAin, aA8, aA, cA, cA2, cA7, fA, cA9]
    · simp [fAin, aA8, aA, cA, cA2, cA7, fA, cA9]
  | 42, h1, _ =>
    rcases (show i = 0 ∨ i = 1 ∨ i = 2 ∨ i = 3 ∨ i = 4 ∨ i = 5 ∨ i = 6 by have h2 : i < 7 := h1; omega) with rfl | rfl | rfl | rfl | rfl | rfl | rfl
    · simp [fAin, aA8, aA, cA, cA2, cA7, fA, cA9]
    · simp [fAin, aA8, aA, cA, cA2, cA7, fA, cA9]
    · simp [fAin, aA8, aA, cA, cA2, cA7, fA, cA9]
    · simp [fAin, aA8, aA, cA, cA2, cA7, fA, cA9]
    · simp [fAin, aA8, aA, cA, cA2, cA7, fA, cA9]
    · simp [fAin, aA8, aA, cA, cA2, cA7, fA, cA9]
    · simp [fAin, aA8, aA, cA, cA2, cA7, fA, cA9]
  | 43, h1, _ =>
    rcases (show i = 0 ∨ i = 1 ∨ i = 2 ∨ i = 3 ∨ i = 4 ∨ i = 5 ∨ i = 6 by have h2 : i < 7 := h1; omega) with rfl | rfl | rfl | rfl | rfl | rfl | rfl
    · simp [fAin, aA8, aA, cA, cA2, cA7, fA, cA9]
    · simp [fAin, aA8, aA, cA, cA2, cA7, fA, cA9]
    · simp [fAin, aA8, aA, cA, cA2, cA7, fA, cA9]
    · simp [fAin, aA8, aA, cA, cA2, cA7, fA, cA9]
    · simp [fAin, aA8, aA, cA, cA2, cA7, fA, cA9]
    · simp [fAin, aA8, aA, cA, cA2, cA7, fA, cA9]
    · simp [fAin, aA8, aA, cA, cA2, cA7, fA, cA9]
  | 44, h1, _ =>
    rcases (show i = 0 by have h2 : i < 1 := h1; omega) with rfl
    · simp [fAin, aA8, aA, cA, cA2, cA7, fA, cA9]
  | 45, h1, _ =>
    rcases (show i = 0 by have h2 : i < 1 := h1; omega) with rfl
    · simp [fAin, aA8, aA, cA, cA2, cA7, fA, cA9]
  | 46, h1, _ =>
    rcases (show i = 0 by have h2 : i < 1 := h1; omega) with rfl
    · simp [fAin, aA8, aA, cA, cA2, cA7, fA, cA9]
  | 47, h1, _ =>
    rcases (show i = 0 by have h2 : i < 1 := h1; omega) with rfl
    · simp [fAin, aA8, aA, cA, cA2, cA7, fA, cA9]
  | 48, h1, _ =>
    rcases (show i = 0 by have h2 : i < 1 := h1; omega) with rfl
    · simp [fAin, aA8, aA, cA, cA2, cA7, fA, cA9]
  | 49, h1, _ => exact absurd (show i < 0 from h1) (Nat.not_lt_zero _)
  | 50, h1, _ =>
    rcases (show i = 0 by have h2 : i < 1 := h1; omega) with rfl
    · simp [fAin, aA8, aA, cA, cA2, cA7, fA, cA9]
  | 51, h1, _ =>
    rcases (show i = 0 by have h2 : i < 1 := h1; omega) with rfl
    · simp [fAin, aA8, aA, cA, cA2, cA7, fA, cA9]
  | 52, h1, _ =>
    rcases (show i = 0 by have h2 : i < 1 := h1; omega) with rfl
    · simp [fAin, aA8, aA, cA, cA2, cA7, fA, cA9]
  | 53, h1, _ =>
    rcases (show i = 0 by have h2 : i < 1 := h1; omega) with rfl
    · simp [fAin, aA8, aA, cA, cA2, cA7, fA, cA9]
  | 54, h1, _ =>
    rcases (show i = 0 by have h2 : i < 1 := h1; omega) with rfl
    · simp [fAin, aA8, aA, cA, cA2, cA7, fA, cA9]
  | 55, h1, _ =>
    rcases (show i = 0 by have h2 : i < 1 := h1; omega) with rfl
    · simp [fAin, aA8, aA, cA, cA2, cA7, fA, cA9]
  | 56, h1, _ => exact absurd (show i < 0 from h1) (Nat.not_lt_zero _)
  | 57, h1, _ => exact absurd (show i < 0 from h1) (Nat.not_lt_zero _)
  | 58, h1, _ => exact absurd (show i < 0 from h1) (Nat.not_lt_zero _)
  | 59, h1, _ => exact absurd (show i < 0 from h1) (Nat.not_lt_zero _)
  | 60, h1, _ => exact Or.inl (Or.inr ⟨by decide, by decide, h1⟩)
  | 61, h1, _ => exact Or.inl (Or.inr ⟨by decide, by decide, h1⟩)
  | 62, h1, _ => exact Or.inl (Or.inr ⟨by decide, by decide, h1⟩)
  | 63, h1, _ => exact Or.inl (Or.inr ⟨by decide, by decide, h1⟩)
  | 64, h1, _ => exact Or.inl (Or.inr ⟨by decide, by decide, h1⟩)
  | 65, h1, _ => exact Or.inl (Or.inr ⟨by decide, by decide, h1⟩)
  | 66, h1, _ => exact Or.inl (Or.inr ⟨by decide, by decide, h1⟩)
  | 67, h1, _ => exact Or.inl (Or.inr ⟨by decide, by decide, h1⟩)
  | 68, h1, _ => exact Or.inl (Or.inr ⟨by decide, by decide, h1⟩)
  | 69, h1, _ => exact Or.inl (Or.inr ⟨by decide, by decide, h1⟩)
  | 70, h1, _ => exact Or.inl (Or.inr ⟨by decide, by decide, h1⟩)
  | 71, h1, _ => exact Or.inl (Or.inr ⟨by decide, by decide, h1⟩)
  | 72, h1, _ => exact Or.inl (Or.inr ⟨by decide, by decide, h1⟩)
  | 73, h1, _ => exact Or.inl (Or.inr ⟨by decide, by decide, h1⟩)
  | 74, h1, _ => exact Or.inl (Or.inr ⟨by decide, by decide, h1⟩)
  | 75, h1, _ => exact Or.inl (Or.inr ⟨by decide, by decide, h1⟩)
  | 76, h1, _ => exact Or.inl (Or.inr ⟨by decide, by decide, h1⟩)
  | 77, h1, _ => exact Or.inl (Or.inr ⟨by decide, by decide, h1⟩)
  | 78, h1, _ => exact Or.inl (Or.inr ⟨by decide, by decide, h1⟩)
  | 79, h1, _ => exact Or.inl (Or.inr ⟨by decide, by decide, h1⟩)
  | 80, h1, _ => exact Or.inl (Or.inr ⟨by decide, by decide, h1⟩)
  | 81, h1, _ => exact Or.inl (Or.inr ⟨by decide, by decide, h1⟩)
  | 82, h1, _ => exact Or.inl (Or.inr ⟨by decide, by decide, h1⟩)
  | 83, h1, _ => exact Or.inl (Or.inr ⟨by decide, by decide, h1⟩)
  | 84, h1, _ => exact Or.inl (Or.inr ⟨by decide, by decide, h1⟩)
  | 85, h1, _ => exact Or.inl (Or.inr ⟨by decide, by decide, h1⟩)
  | 86, h1, _ => exact Or.inl (Or.inr ⟨by decide, by decide, h1⟩)
  | 87, h1, _ => exact Or.inl (Or.inr ⟨by decide, by decide, h1⟩)
  | 88, h1, _ => exact absurd (show i < 0 from h1) (Nat.not_lt_zero _)
  | 89, h1, _ => exact absurd (show i < 0 from h1) (Nat.not_lt_zero _)
  | 90, h1, _ =>
    rcases (show i = 0 by have h2 : i < 1 := h1; omega) with rfl
    · simp [fAin, aA8, aA, cA, cA2, cA7, fA, cA9]
  | 91, h1, hl => exact absurd (hl.2 rfl) (by decide)
  | n + 92, h1, _ =>
    have e : cntS (n + 92) = 0 := by
      unfold cntS
      rw [List.getD_eq_getElem?_getD, List.getElem?_eq_none (by show 92 ≤ n + 92; omega)]; rfl
    omega
set_option maxHeartbeats 8000000 in
set_option maxRecDepth 100000 in
theorem ini_P : ∀ r i k, lvS σ0 r i → k < szS r i → fPin r i k := by
  intro r i k hl hk
  have h1 := hl.1
  match r, h1, hl, hk with
  | 0, h1, _, hk =>
    rcases (show i = 0 ∨ i = 1 ∨ i = 2 ∨ i = 3 by have h2 : i < 4 := h1; omega) with rfl | rfl | rfl | rfl
    · simp [fPin, aP8, aP, cP, cP2, cP7, fP, lP, cP9, hk]
    · simp [fPin, aP8, aP, cP, cP2, cP7, fP, lP, cP9, hk]
    · simp [fPin, aP8, aP, cP, cP2, cP7, fP, lP, cP9, hk]
    · simp [fPin, aP8, aP, cP, cP2, cP7, fP, lP, cP9, hk]
  | 1, h1, _, hk =>
    rcases (show i = 0 ∨ i = 1 ∨ i = 2 ∨ i = 3 ∨ i = 4 by have h2 : i < 5 := h1; omega) with rfl | rfl | rfl | rfl | rfl
    · simp [fPin, aP8, aP, cP, cP2, cP7, fP, lP, cP9, hk]
    · simp [fPin, aP8, aP, cP, cP2, cP7, fP, lP, cP9, hk]
    · simp [fPin, aP8, aP, cP, cP2, cP7, fP, lP, cP9, hk]
    · simp [fPin, aP8, aP, cP, cP2, cP7, fP, lP, cP9, hk]
    · simp [fPin, aP8, aP, cP, cP2, cP7, fP, lP, cP9, hk]
  | 2, h1, _, hk =>
    rcases (show i = 0 by have h2 : i < 1 := h1; omega) with rfl
    · simp [fPin, aP8, aP, cP, cP2, cP7, fP, lP, cP9, hk]
  | 3, h1, _, hk =>
    rcases (show i = 0 ∨ i = 1 ∨ i = 2 ∨ i = 3 ∨ i = 4 ∨ i = 5 ∨ i = 6 by have h2 : i < 7 := h1; omega) with rfl | rfl | rfl | rfl | rfl | rfl | rfl
    · simp [fPin, aP8, aP, cP, cP2, cP7, fP, lP, cP9, hk]
    · simp [fPin, aP8, aP, cP, cP2, cP7, fP, lP, cP9, hk]
    · simp [fPin, aP8, aP, cP, cP2, cP7, fP, lP, cP9, hk]
    · simp [fPin, aP8, aP, cP, cP2, cP7, fP, lP, cP9, hk]
    · simp [fPin, aP8, aP, cP, cP2, cP7, fP, lP, cP9, hk]
    · simp [fPin, aP8, aP, cP, cP2, cP7, fP, lP, cP9, hk]
    · simp [fPin, aP8, aP, cP, cP2, cP7, fP, lP, cP9, hk]
  | 4, h1, _, hk =>
    rcases (show i = 0 by have h2 : i < 1 := h1; omega) with rfl
    · simp [fPin, aP8, aP, cP, cP2, cP7, fP, lP, cP9, hk]
  | 5, h1, _, hk =>
    rcases (show i = 0 by have h2 : i < 1 := h1; omega) with rfl
    · simp [fPin, aP8, aP, cP, cP2, cP7, fP, lP, cP9, hk]
  | 6, h1, _, hk =>
    rcases (show i = 0 ∨ i = 1 ∨ i = 2 ∨ i = 3 ∨ i = 4 ∨ i = 5 ∨ i = 6 by have h2 : i < 7 := h1; omega) with rfl | rfl | rfl | rfl | rfl | rfl | rfl
    · simp [fPin, aP8, aP, cP, cP2, cP7, fP, lP, cP9, hk]
    · simp [fPin, aP8, aP, cP, cP2, cP7, fP, lP, cP9, hk]
    · simp [fPin, aP8, aP, cP, cP2, cP7, fP, lP, cP9, hk]
    · simp [fPin, aP8, aP, cP, cP2, cP7, fP, lP, cP9, hk]
    · simp [fPin, aP8, aP, cP, cP2, cP7, fP, lP, cP9, hk]
    · simp [fPin, aP8, aP, cP, cP2, cP7, fP, lP, cP9, hk]
    · simp [fPin, aP8, aP, cP, cP2, cP7, fP, lP, cP9, hk]
  | 7, h1, _, hk =>
    rcases (show i = 0 by have h2 : i < 1 := h1; omega) with rfl
    · simp [fPin, aP8, aP, cP, cP2, cP7, fP, lP, cP9, hk]
  | 8, h1, _, hk =>
    rcases (show i = 0 by have h2 : i < 1 := h1; omega) with rfl
    · have hk : k < 15 := hk
      rcases (show k = 0 ∨ k = 1 ∨ k = 2 ∨ k = 3 ∨ k = 4 ∨ k = 5 ∨ k = 6 ∨ k = 7 ∨ k = 8 ∨ k = 9 ∨ k = 10 ∨ k = 11 ∨ k = 12 ∨ k = 13 ∨ k = 14 by omega) with rfl | rfl | rfl | rfl | rfl | rfl | rfl | rfl | rfl | rfl | rfl | rfl | rfl | rfl | rfl
      · simp [fPin, aP8, aP, cP, cP2, cP7, fP, lP, cP9]
      · simp [fPin, aP8, aP, cP, cP2, cP7, fP, lP, cP9]
      · simp [fPin, aP8, aP, cP, cP2, cP7, fP, lP, cP9]
      · simp [fPin, aP8, aP, cP, cP2, cP7, fP, lP, cP9]
      · simp [fPin, aP8, aP, cP, cP2, cP7, fP, lP, cP9]
      · simp [fPin, aP8, aP, cP, cP2, cP7, fP, lP, cP9]
      · simp [fPin, aP8, aP, cP, cP2, cP7, fP, lP, cP9]
      · simp [fPin, aP8, aP, cP, cP2, cP7, fP, lP, cP9]
      · simp [fPin, aP8, aP, cP, cP2, cP7, fP, lP, cP9]
      · simp [fPin, aP8, aP, cP, cP2, cP7, fP, lP, cP9]
      · simp [fPin, aP8, aP, cP, cP2, cP7, fP, lP, cP9]
      · simp [fPin, aP8, aP, cP, cP2, cP7, fP, lP, cP9]
      · simp [fPin, aP8, aP, cP, cP2, cP7, fP, lP, cP9]
      · simp [fPin, aP8, aP, cP, cP2, cP7, fP, lP, cP9]
      · simp [fPin, aP8, aP, cP, cP2, cP7, fP, lP, cP9]
  | 9, h1, _, hk =>
    obtain rfl : i = 0 := by have h2 : i < 1 := h1; omega
    exact Or.inl (Or.inr ⟨Or.inl ⟨rfl, rfl⟩, hk⟩)
  | 10, h1, _, _ => exact absurd (show i < 0 from h1) (Nat.not_lt_zero _)
  | 11, h1, _, _ => exact absurd (show i < 0 from h1) (Nat.not_lt_zero _)
  | 12, h1, _, _ => exact absurd (show i < 0 from h1) (Nat.not_lt_zero _)
  | 13, h1, _, _ => exact absurd (show i < 0 from h1) (Nat.not_lt_zero _)
  | 14, h1, _, _ => exact absurd (show i < 0 from h1) (Nat.not_lt_zero _)
  | 15, h1, _, _ => exact absurd (show i < 0 from h1) (Nat.not_lt_zero _)
  | 16, h1, _, _ => exact absurd (show i < 0 from h1) (Nat.not_lt_zero _)
  | 17, h1, _, _ => exact absurd (show i < 0 from h1) (Nat.not_lt_zero _)
  | 18, h1, _, _ => exact absurd (show i < 0 from h1) (Nat.not_lt_zero _)
  | 19, h1, _, _ => exact absurd (show i < 0 from h1) (Nat.not_lt_zero _)
  | 20, h1, _, hk =>
    rcases (show i = 0 ∨ i = 1 ∨ i = 2 ∨ i = 3 by have h2 : i < 4 := h1; omega) with rfl | rfl | rfl | rfl
    · simp [fPin, aP8, aP, cP, cP2, cP7, fP, lP, cP9, hk]
    · simp [fPin, aP8, aP, cP, cP2, cP7, fP, lP, cP9, hk]
    · simp [fPin, aP8, aP, cP, cP2, cP7, fP, lP, cP9, hk]
    · simp [fPin, aP8, aP, cP, cP2, cP7, fP, lP, cP9, hk]
  | 21, h1, _, hk =>
    rcases (show i = 0 ∨ i = 1 ∨ i = 2 ∨ i = 3 by have h2 : i < 4 := h1; omega) with rfl | rfl | rfl | rfl
    · simp [fPin, aP8, aP, cP, cP2, cP7, fP, lP, cP9, hk]
    · simp [fPin, aP8, aP, cP, cP2, cP7, fP, lP, cP9, hk]
    · simp [fPin, aP8, aP, cP, cP2, cP7, fP, lP, cP9, hk]
    · simp [fPin, aP8, aP, cP, cP2, cP7, fP, lP, cP9, hk]
  | 22, h1, _, hk =>
    rcases (show i = 0 ∨ i = 1 ∨ i = 2 ∨ i = 3 by have h2 : i < 4 := h1; omega) with rfl | rfl | rfl | rfl
    · simp [fPin, aP8, aP, cP, cP2, cP7, fP, lP, cP9, hk]
    · simp [fPin, aP8, aP, cP, cP2, cP7, fP, lP, cP9, hk]
    · simp [fPin, aP8, aP, cP, cP2, cP7, fP, lP, cP9, hk]
    · simp [fPin, aP8, aP, cP, cP2, cP7, fP, lP, cP9, hk]
  | 23, h1, _, hk =>
    rcases (show i = 0 ∨ i = 1 ∨ i = 2 ∨ i = 3 by have h2 : i < 4 := h1; omega) with rfl | rfl | rfl | rfl
    · simp [fPin, aP8, aP, cP, cP2, cP7, fP, lP, cP9, hk]
    · simp [fPin, aP8, aP, cP, cP2, cP7, fP, lP, cP9, hk]
    · simp [fPin, aP8, aP, cP, cP2, cP7, fP, lP, cP9, hk]
    · simp [fPin, aP8, aP, cP, cP2, cP7, fP, lP, cP9, hk]
  | 24, h1, _, hk =>
    rcases (show i = 0 ∨ i = 1 ∨ i = 2 ∨ i = 3 by have h2 : i < 4 := h1; omega) with rfl | rfl | rfl | rfl
    · simp [fPin, aP8, aP, cP, cP2, cP7, fP, lP, cP9, hk]
    · simp [fPin, aP8, aP, cP, cP2, cP7, fP, lP, cP9, hk]
    · simp [fPin, aP8, aP, cP, cP2, cP7, fP, lP, cP9, hk]
    · simp [fPin, aP8, aP, cP, cP2, cP7, fP, lP, cP9, hk]
  | 25, h1, _, hk =>
    rcases (show i = 0 ∨ i = 1 ∨ i = 2 ∨ i = 3 by have h2 : i < 4 := h1; omega) with rfl | rfl | rfl | rfl
    · simp [fPin, aP8, aP, cP, cP2, cP7, fP, lP, cP9, hk]
    · simp [fPin, aP8, aP, cP, cP2, cP7, fP, lP, cP9, hk]
    · simp [fPin, aP8, aP, cP, cP2, cP7, fP, lP, cP9, hk]
    · simp [fPin, aP8, aP, cP, cP2, cP7, fP, lP, cP9, hk]
  | 26, h1, _, hk =>
    rcases (show i = 0 ∨ i = 1 ∨ i = 2 ∨ i = 3 by have h2 : i < 4 := h1; omega) with rfl | rfl | rfl | rfl
    · simp [fPin, aP8, aP, cP, cP2, cP7, fP, lP, cP9, hk]
    · simp [fPin, aP8, aP, cP, cP2, cP7, fP, lP, cP9, hk]
    · simp [fPin, aP8, aP, cP, cP2, cP7, fP, lP, cP9, hk]
    · simp [fPin, aP8, aP, cP, cP2, cP7, fP, lP, cP9, hk]
  | 27, h1, _, hk =>
    rcases (show i = 0 ∨ i = 1 ∨ i = 2 ∨ i = 3 by have h2 : i < 4 := h1; omega) with rfl | rfl | rfl | rfl
    · simp [fPin, aP8, aP, cP, cP2, cP7, fP, lP, cP9, hk]
    · simp [fPin, aP8, aP, cP, cP2, cP7, fP, lP, cP9, hk]
    · simp [fPin, aP8, aP, cP, cP2, cP7, fP, lP, cP9, hk]
    · simp [fPin, aP8, aP, cP, cP2, cP7, fP, lP, cP9, hk]
  | 28, h1, _, hk =>
    rcases (show i = 0 ∨ i = 1 ∨ i = 2 ∨ i = 3 by have h2 : i < 4 := h1; omega) with rfl | rfl | rfl | rfl
    · simp [fPin, aP8, aP, cP, cP2, cP7, fP, lP, cP9, hk]
    · simp [fPin, aP8, aP, cP, cP2, cP7, fP, lP, cP9, hk]
    · simp [fPin, aP8, aP, cP, cP2, cP7, fP, lP, cP9, hk]
    · simp [fPin, aP8, aP, cP, cP2, cP7, fP, lP, cP9, hk]
  | 29, h1, _, hk =>
    rcases (show i = 0 ∨ i = 1 ∨ i = 2 ∨ i = 3 by have h2 : i < 4 := h1; omega) with rfl | rfl | rfl | rfl
    · simp [fPin, aP8, aP, cP, cP2, cP7, fP, lP, cP9, hk]
    · simp [fPin, aP8, aP, cP, cP2, cP7, fP, lP, cP9, hk]
    · simp [fPin, aP8, aP, cP, cP2, cP7, fP, lP, cP9, hk]
    · simp [fPin, aP8, aP, cP, cP2, cP7, fP, lP, cP9, hk]
  | 30, h1, _, hk =>
    rcases (show i = 0 ∨ i = 1 ∨ i = 2 ∨ i = 3 by have h2 : i < 4 := h1; omega) with rfl | rfl | rfl | rfl
    · simp [fPin, aP8, aP, cP, cP2, cP7, fP, lP, cP9, hk]
    · simp [fPin, aP8, aP, cP, cP2, cP7, fP, lP, cP9, hk]
    · simp [fPin, aP8, aP, cP, cP2, cP7, fP, lP, cP9, hk]
    · simp [fPin, aP8, aP, cP, cP2, cP7, fP, lP, cP9, hk]
  | 31, h1, _, hk =>
    rcases (show i = 0 ∨ i = 1 ∨ i = 2 ∨ i = 3 by have h2 : i < 4 := h1; omega) with rfl | rfl | rfl | rfl
    · simp [fPin, aP8, aP, cP, cP2, cP7, fP, lP, cP9, hk]
    · simp [fPin, aP8, aP, cP, cP2, cP7, fP, lP, cP9, hk]
    · simp [fPin, aP8, aP, cP, cP2, cP7, fP, lP, cP9, hk]
    · simp [fPin, aP8, aP, cP, cP2, cP7, fP, lP, cP9, hk]
  | 32, h1, _, hk =>
    rcases (show i = 0 ∨ i = 1 ∨ i = 2 ∨ i = 3 ∨ i = 4 by have h2 : i < 5 := h1; omega) with rfl | rfl | rfl | rfl | rfl
    · simp [fPin, aP8, aP, cP, cP2, cP7, fP, lP, cP9, hk]
    · simp [fPin, aP8, aP, cP, cP2, cP7, fP, lP, cP9, hk]
    · simp [fPin, aP8, aP, cP, cP2, cP7, fP, lP, cP9, hk]
    · simp [fPin, aP8, aP, cP, cP2, cP7, fP, lP, cP9, hk]
    · simp [fPin, aP8, aP, cP, cP2, cP7, fP, lP, cP9, hk]
  | 33, h1, _, hk =>
    rcases (show i = 0 ∨ i = 1 ∨ i = 2 ∨ i = 3 ∨ i = 4 by have h2 : i < 5 := h1; omega) with rfl | rfl | rfl | rfl | rfl
    · simp [fPin, aP8, aP, cP, cP2, cP7, fP, lP, cP9, hk]
    · simp [fPin, aP8, aP, cP, cP2, cP7, fP, lP, cP9, hk]
    · simp [fPin, aP8, aP, cP, cP2, cP7, fP, lP, cP9, hk]
    · simp [fPin, aP8, aP, cP, cP2, cP7, fP, lP, cP9, hk]
    · simp [fPin, aP8, aP, cP, cP2, cP7, fP, lP, cP9, hk]
  | 34, h1, _, hk =>
    rcases (show i = 0 ∨ i = 1 ∨ i = 2 ∨ i = 3 ∨ i = 4 by have h2 : i < 5 := h1; omega) with rfl | rfl | rfl | rfl | rfl
    · simp [fPin, aP8, aP, cP, cP2, cP7, fP, lP, cP9, hk]
    · simp [fPin, aP8, aP, cP, cP2, cP7, fP, lP, cP9, hk]
    · simp [fPin, aP8, aP, cP, cP2, cP7, fP, lP, cP9, hk]
    · simp [fPin, aP8, aP, cP, cP2, cP7, fP, lP, cP9, hk]
    · simp [fPin, aP8, aP, cP, cP2, cP7, fP, lP, cP9, hk]
  | 35, h1, _, hk =>
    rcases (show i = 0 ∨ i = 1 ∨ i = 2 ∨ i = 3 ∨ i = 4 by have h2 : i < 5 := h1; omega) with rfl | rfl | rfl | rfl | rfl
    · simp [fPin, aP8, aP, cP, cP2, cP7, fP, lP, cP9, hk]
    · simp [fPin, aP8, aP, cP, cP2, cP7, fP, lP, cP9, hk]
    · simp [fPin, aP8, aP, cP, cP2, cP7, fP, lP, cP9, hk]
    · simp [fPin, aP8, aP, cP, cP2, cP7, fP, lP, cP9, hk]
    · simp [fPin, aP8, aP, cP, cP2, cP7, fP, lP, cP9, hk]
  | 36, h1, _, hk =>
    rcases (show i = 0 ∨ i = 1 ∨ i = 2 ∨ i = 3 ∨ i = 4 by have h2 : i < 5 := h1; omega) with rfl | rfl | rfl | rfl | rfl
    · simp [fPin, aP8, aP, cP, cP2, cP7, fP, lP, cP9, hk]
    · simp [fPin, aP8, aP, cP, cP2, cP7, fP, lP, cP9, hk]
    · simp [fPin, aP8, aP, cP, cP2, cP7, fP, lP, cP9, hk]
    · simp [fPin, aP8, aP, cP, cP2, cP7, fP, lP, cP9, hk]
    · simp [fPin, aP8, aP, cP, cP2, cP7, fP, lP, cP9, hk]
  | 37, h1, _, hk =>
    rcases (show i = 0 ∨ i = 1 ∨ i = 2 ∨ i = 3 ∨ i = 4 ∨ i = 5 ∨ i = 6 by have h2 : i < 7 := h1; omega) with rfl | rfl | rfl | rfl | rfl | rfl | rfl
    · simp [fPin, aP8, aP, cP, cP2, cP7, fP, lP, cP9, hk]
    · simp [fPin, aP8, aP, cP, cP2, cP7, fP, lP, cP9, hk]
    · simp [fPin, aP8, aP, cP, cP2, cP7, fP, lP, cP9, hk]
    · simp [fPin, aP8, aP, cP, cP2, cP7, fP, lP, cP9, hk]
    · simp [fPin, aP8, aP, cP, cP2, cP7, fP, lP, cP9, hk]
    · simp [fPin, aP8, aP, cP, cP2, cP7, fP, lP, cP9, hk]
    · simp [fPin, aP8, aP, cP, cP2, cP7, fP, lP, cP9, hk]
  | 38, h1, _, hk =>
    rcases (show i = 0 ∨ i = 1 ∨ i = 2 ∨ i = 3 ∨ i = 4 ∨ i = 5 ∨ i = 6 by have h2 : i < 7 := h1; omega) with rfl | rfl | rfl | rfl | rfl | rfl | rfl
    · simp [fPin, aP8, aP, cP, cP2, cP7, fP, lP, cP9, hk]
    · simp [fPin, aP8, aP, cP, cP2, cP7, fP, lP, cP9, hk]
    · simp [fPin, aP8, aP, cP, cP2, cP7, fP, lP, cP9, hk]
    · simp [fPin, aP8, aP, cP, cP2, cP7, fP, lP, cP9, hk]
    · simp [fPin, aP8, aP, cP, cP2, cP7, fP, lP, cP9, hk]
    · simp [fPin, aP8, aP, cP, cP2, cP7, fP, lP, cP9, hk]
    · simp [fPin, aP8, aP, cP, cP2, cP7, fP, lP, cP9, hk]
  | 39, h1, _, hk =>
    rcases (show i = 0 ∨ i = 1 ∨ i = 2 ∨ i = 3 ∨ i = 4 ∨ i = 5 ∨ i = 6 by have h2 : i < 7 := h1; omega) with rfl | rfl | rfl | rfl | rfl | rfl | rfl
    · simp [fPin, aP8, aP, cP, cP2, cP7, fP, lP, cP9, hk]
    · simp [fPin, aP8, aP, cP, cP2, cP7, fP, lP, cP9, hk]
    · simp [fPin, aP8, aP, cP, cP2, cP7, fP, lP, cP9, hk]
    · simp [fPin, aP8, aP, cP, cP2, cP7, fP, lP, cP9, hk]
    · simp [fPin, aP8, aP, cP, cP2, cP7, fP, lP, cP9, hk]
    · simp [fPin, aP8, aP, cP, cP2, cP7, fP, lP, cP9, hk]
    · simp [fPin, aP8, aP, cP, cP2, cP7, fP, lP, cP9, hk]
  | 40, h1, _, hk =>
    rcases (show i = 0 ∨ i = 1 ∨ i = 2 ∨ i = 3 ∨ i = 4 ∨ i = 5 ∨ i = 6 by have h2 : i < 7 := h1; omega) with rfl | rfl | rfl | rfl | rfl | rfl | rfl
    · simp [fPin, aP8, aP, cP, cP2, cP7, fP, lP, cP9, hk]
    · simp [fPin, aP8, aP, cP, cP2, cP7, fP, lP, cP9, hk]
    · simp [fPin, aP8, aP, cP, cP2, cP7, fP, lP, cP9, hk]
    · simp [fPin, aP8, aP, cP, cP2, cP7, fP, lP, cP9, hk]
    · simp [fPin, aP8, aP, cP, cP2, cP7, fP, lP, cP9, hk]
    · simp [fPin, aP8, aP, cP, cP2, cP7, fP, lP, cP9, hk]
    · simp [fPin, aP8, aP, cP, cP2, cP7, fP, lP, cP9, hk]
  | 41, h1, _, hk =>
    rcases (show i = 0 ∨ i = 1 ∨ i = 2 ∨ i = 3 ∨ i = 4 ∨ i = 5 ∨ i = 6 by have h2 : i < 7 := h1; omega) with rfl | rfl | rfl | rfl | rfl | rfl | rfl
    · simp [fPin, aP8, aP, cP, cP2, cP7, fP, lP, cP9, hk]
    · simp [fPin, aP8, aP, cP, cP2, cP7, fP, lP, cP9, hk]
    · simp [fPin, aP8, aP, cP, cP2, cP7, fP, lP, cP9, hk]
    · simp [fPin, aP8, aP, cP, cP2, cP7, fP, lP, cP9, hk]
    · simp [fPin, aP8, aP, cP, cP2, cP7, fP, lP, cP9, hk]
    · simp [fPin, aP8, aP, cP, cP2, cP7, fP, lP, cP9, hk]
    · simp [fPin, aP8, aP, cP, cP2, cP7, fP, lP, cP9, hk]
  | 42, h1, _, hk =>
    rcases (show i = 0 ∨ i = 1 ∨ i = 2 ∨ i = 3 ∨ i = 4 ∨ i = 5 ∨ i = 6 by have h2 : i < 7 := h1; omega) with rfl | rfl | rfl | rfl | rfl | rfl | rfl
    · simp [fPin, aP8, aP, cP, cP2, cP7, fP, lP, cP9, hk]
    · simp [fPin, aP8, aP, cP, cP2, cP7, fP, lP, cP9, hk]
    · simp [fPin, aP8, aP, cP, cP2, cP7, fP, lP, cP9, hk]
    · simp [fPin, aP8, aP, cP, cP2, cP7, fP, lP, cP9, hk]
    · simp [fPin, aP8, aP, cP, cP2, cP7, fP, lP, cP9, hk]
    · simp [fPin, aP8, aP, cP, cP2, cP7, fP, lP, cP9, hk]
    · simp [fPin, aP8, aP, cP, cP2, cP7, fP, lP, cP9, hk]
  | 43, h1, _, hk =>
    rcases (show i = 0 ∨ i = 1 ∨ i = 2 ∨ i = 3 ∨ i = 4 ∨ i = 5 ∨ i = 6 by have h2 : i < 7 := h1; omega) with rfl | rfl | rfl | rfl | rfl | rfl | rfl
    · simp [fPin, aP8, aP, cP, cP2, cP7, fP, lP, cP9, hk]
    · simp [fPin, aP8, aP, cP, cP2, cP7, fP, lP, cP9, hk]
    · simp [fPin, aP8, aP, cP, cP2, cP7, fP, lP, cP9, hk]
    · simp [fPin, aP8, aP, cP, cP2, cP7, fP, lP, cP9, hk]
    · simp [fPin, aP8, aP, cP, cP2, cP7, fP, lP, cP9, hk]
    · simp [fPin, aP8, aP, cP, cP2, cP7, fP, lP, cP9, hk]
    · simp [fPin, aP8, aP, cP, cP2, cP7, fP, lP, cP9, hk]
  | 44, h1, _, hk =>
    rcases (show i = 0 by have h2 : i < 1 := h1; omega) with rfl
    · simp [fPin, aP8, aP, cP, cP2, cP7, fP, lP, cP9, hk]
  | 45, h1, _, hk =>
    rcases (show i = 0 by have h2 : i < 1 := h1; omega) with rfl
    · simp [fPin, aP8, aP, cP, cP2, cP7, fP, lP, cP9, hk]
  | 46, h1, _, hk =>
    rcases (show i = 0 by have h2 : i < 1 := h1; omega) with rfl
    · simp [fPin, aP8, aP, cP, cP2, cP7, fP, lP, cP9, hk]
  | 47, h1, _, hk =>
    rcases (show i = 0 by have h2 : i < 1 := h1; omega) with rfl
    · simp [fPin, aP8, aP, cP, cP2, cP7, fP, lP, cP9, hk]
  | 48, h1, _, hk =>
    rcases (show i = 0 by have h2 : i < 1 := h1; omega) with rfl
    · simp [fPin, aP8, aP, cP, cP2, cP7, fP, lP, cP9, hk]
  | 49, h1, _, _ => exact absurd (show i < 0 from h1) (Nat.not_lt_zero _)
  | 50, h1, _, hk =>
    rcases (show i = 0 by have h2 : i < 1 := h1; omega) with rfl
    · have hk : k < 6 := hk
      simp [fPin, aP8, aP, cP, cP2, cP7, fP, lP, cP9, hk]
  | 51, h1, _, hk =>
    rcases (show i = 0 by have h2 : i < 1 := h1; omega) with rfl
    · have hk : k < 6 := hk
      simp [fPin, aP8, aP, cP, cP2, cP7, fP, lP, cP9, hk]
  | 52, h1, _, hk =>
    rcases (show i = 0 by have h2 : i < 1 := h1; omega) with rfl
    · have hk : k < 4 := hk
      simp [fPin, aP8, aP, cP, cP2, cP7, fP, lP, cP9, hk]
  | 53, h1, _, hk =>
    rcases (show i = 0 by have h2 : i < 1 := h1; omega) with rfl
    · have hk : k < 3 := hk
      simp [fPin, aP8, aP, cP, cP2, cP7, fP, lP, cP9, hk]
  | 54, h1, _, hk =>
    rcases (show i = 0 by have h2 : i < 1 := h1; omega) with rfl
    · have hk : k < 200 := hk
      simp [fPin, aP8, aP, cP, cP2, cP7, fP, lP, cP9, hk]
  | 55, h1, _, hk =>
    rcases (show i = 0 by have h2 : i < 1 := h1; omega) with rfl
    · simp [fPin, aP8, aP, cP, cP2, cP7, fP, lP, cP9]
  | 56, h1, _, _ => exact absurd (show i < 0 from h1) (Nat.not_lt_zero _)
  | 57, h1, _, _ => exact absurd (show i < 0 from h1) (Nat.not_lt_zero _)
  | 58, h1, _, _ => exact absurd (show i < 0 from h1) (Nat.not_lt_zero _)
  | 59, h1, _, _ => exact absurd (show i < 0 from h1) (Nat.not_lt_zero _)
  | 60, h1, _, hk => exact Or.inl (Or.inr ⟨Or.inr ⟨by decide, by decide, h1⟩, hk⟩)
  | 61, h1, _, hk => exact Or.inl (Or.inr ⟨Or.inr ⟨by decide, by decide, h1⟩, hk⟩)
  | 62, h1, _, hk => exact Or.inl (Or.inr ⟨Or.inr ⟨by decide, by decide, h1⟩, hk⟩)
  | 63, h1, _, hk => exact Or.inl (Or.inr ⟨Or.inr ⟨by decide, by decide, h1⟩, hk⟩)
  | 64, h1, _, hk => exact Or.inl (Or.inr ⟨Or.inr ⟨by decide, by decide, h1⟩, hk⟩)
  | 65, h1, _, hk => exact Or.inl (Or.inr ⟨Or.inr ⟨by decide, by decide, h1⟩, hk⟩)
  | 66, h1, _, hk => exact Or.inl (Or.inr ⟨Or.inr ⟨by decide, by decide, h1⟩, hk⟩)
  | 67, h1, _, hk => exact Or.inl (Or.inr ⟨Or.inr ⟨by decide, by decide, h1⟩, hk⟩)
  | 68, h1, _, hk => exact Or.inl (Or.inr ⟨Or.inr ⟨by decide, by decide, h1⟩, hk⟩)
  | 69, h1, _, hk => exact Or.inl (Or.inr ⟨Or.inr ⟨by decide, by decide, h1⟩, hk⟩)
  | 70, h1, _, hk => exact Or.inl (Or.inr ⟨Or.inr ⟨by decide, by decide, h1⟩, hk⟩)
  | 71, h1, _, hk => exact Or.inl (Or.inr ⟨Or.inr ⟨by decide, by decide, h1⟩, hk⟩)
  | 72, h1, _, hk => exact Or.inl (Or.inr ⟨Or.inr ⟨by decide, by decide, h1⟩, hk⟩)
  | 73, h1, _, hk => exact Or.inl (Or.inr ⟨Or.inr ⟨by decide, by decide, h1⟩, hk⟩)
  | 74, h1, _, hk => exact Or.inl (Or.inr ⟨Or.inr ⟨by decide, by decide, h1⟩, hk⟩)
  | 75, h1, _, hk => exact Or.inl (Or.inr ⟨Or.inr ⟨by decide, by decide, h1⟩, hk⟩)
  | 76, h1, _, hk => exact Or.inl (Or.inr ⟨Or.inr ⟨by decide, by decide, h1⟩, hk⟩)
  | 77, h1, _, hk => exact Or.inl (Or.inr ⟨Or.inr ⟨by decide, by decide, h1⟩, hk⟩)
  | 78, h1, _, hk => exact Or.inl (Or.inr ⟨Or.inr ⟨by decide, by decide, h1⟩, hk⟩)
  | 79, h1, _, hk => exact Or.inl (Or.inr ⟨Or.inr ⟨by decide, by decide, h1⟩, hk⟩)
  | 80, h1, _, hk => exact Or.inl (Or.inr ⟨Or.inr ⟨by decide, by decide, h1⟩, hk⟩)
  | 81, h1, _, hk => exact Or.inl (Or.inr ⟨Or.inr ⟨by decide, by decide, h1⟩, hk⟩)
  | 82, h1, _, hk => exact Or.inl (Or.inr ⟨Or.inr ⟨by decide, by decide, h1⟩, hk⟩)
  | 83, h1, _, hk => exact Or.inl (Or.inr ⟨Or.inr ⟨by decide, by decide, h1⟩, hk⟩)
  | 84, h1, _, hk => exact Or.inl (Or.inr ⟨Or.inr ⟨by decide, by decide, h1⟩, hk⟩)
  | 85, h1, _, hk => exact Or.inl (Or.inr ⟨Or.inr ⟨by decide, by decide, h1⟩, hk⟩)
  | 86, h1, _, hk => exact Or.inl (Or.inr ⟨Or.inr ⟨by decide, by decide, h1⟩, hk⟩)
  | 87, h1, _, hk => exact Or.inl (Or.inr ⟨Or.inr ⟨by decide, by decide, h1⟩, hk⟩)
  | 88, h1, _, _ => exact absurd (show i < 0 from h1) (Nat.not_lt_zero _)
  | 89, h1, _, _ => exact absurd (show i < 0 from h1) (Nat.not_lt_zero _)
  | 90, h1, _, hk =>
    rcases (show i = 0 by have h2 : i < 1 := h1; omega) with rfl
    · simp [fPin, aP8, aP, cP, cP2, cP7, fP, lP, cP9]
  | 91, h1, hl, _ => exact absurd (hl.2 rfl) (by decide)
  | n + 92, h1, _, _ =>
    have e : cntS (n + 92) = 0 := by
      unfold cntS
      rw [List.getD_eq_getElem?_getD, List.getElem?_eq_none (by show 92 ≤ n + 92; omega)]; rfl
    omega
theorem init_rel {E : EV} {a : Nat → Nat → Nat} {H : Heap} (h : RWm E fAin fPin a H) : Rel E a σ0 H := h.rel ini_A ini_P
