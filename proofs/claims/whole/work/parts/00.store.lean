/-! ===== the abstract store: ints, longs and registers by region, row and slot ===== -/
abbrev HS : Type := (Nat → Nat → Nat → Int32) × (Nat → Nat → Nat → Int64) × (Nat → Nat)
def gI (σ : HS) (r i k : Nat) : Int32 := σ.1 r i k
def gL (σ : HS) (r i k : Nat) : Int64 := σ.2.1 r i k
def gR (σ : HS) (k : Nat) : Nat := σ.2.2 k
def wI (σ : HS) (r i k : Nat) (v : Int32) : HS := (fun r' i' k' => if r' = r ∧ i' = i ∧ k' = k then v else σ.1 r' i' k', σ.2.1, σ.2.2)
def wL (σ : HS) (r i k : Nat) (v : Int64) : HS := (σ.1, fun r' i' k' => if r' = r ∧ i' = i ∧ k' = k then v else σ.2.1 r' i' k', σ.2.2)
def wR (σ : HS) (k n : Nat) : HS := (σ.1, σ.2.1, fun k' => if k' = k then n else σ.2.2 k')
def wA (σ : HS) (r i : Nat) (f : Nat → Int32) : HS := (fun r' i' k' => if r' = r ∧ i' = i then f k' else σ.1 r' i' k', σ.2.1, σ.2.2)
/-! what may fail: an index, a divisor, a boolean that is none -/
def ck (n : Nat) (j : Int32) : Option Nat := if j < 0 ∨ n ≤ j.toNatClampNeg then none else some j.toNatClampNeg
def nz (y : Int32) : Option Unit := if y = 0 then none else some ()
def nzL (y : Int64) : Option Unit := if y = 0 then none else some ()
def zb (v : Int32) : Option Unit := if v = 0 ∨ v = 1 then some () else none
def bd {α β : Type} (x : α) (k : α → β) : β := k x
def jp {F G : Type} (f : F) (g : F → G) : G := g f
theorem ck_in {n : Nat} {j : Int32} {k : Nat} (h : ck n j = some k) : vp_in j n ∧ k = j.toNatClampNeg ∧ k < n := by
  unfold ck at h
  by_cases hc : j < 0 ∨ n ≤ j.toNatClampNeg
  · rw [if_pos hc] at h; cases h
  · rw [if_neg hc] at h
    cases h
    exact ⟨hc, rfl, Nat.not_le.mp fun q => hc (Or.inr q)⟩
theorem nz_ne {y : Int32} {u : Unit} (h : nz y = some u) : ¬ y = 0 := by
  unfold nz at h
  intro hy
  rw [if_pos hy] at h
  cases h
theorem nzL_ne {y : Int64} {u : Unit} (h : nzL y = some u) : ¬ y = 0 := by
  unfold nzL at h
  intro hy
  rw [if_pos hy] at h
  cases h
theorem zb_is {v : Int32} {u : Unit} (h : zb v = some u) : v = 0 ∨ v = 1 := by
  unfold zb at h
  by_cases hc : v = 0 ∨ v = 1
  · exact hc
  · rw [if_neg hc] at h; cases h
theorem zb_narrow {v : Int32} {u : Unit} (h : zb v = some u) : narrow .boolean (.int v) = .int v := by
  rcases zb_is h with h | h <;> subst h <;> rfl
theorem zb_fits {v : Int32} {u : Unit} (h : zb v = some u) : fits .boolean (.int v) = true := by
  rcases zb_is h with h | h <;> subst h <;> rfl
/-- a bound step of the pure text, taken apart -/
theorem ob {α β : Type} {x : Option α} {f : α → Option β} {y : β} (h : x.bind f = some y) : ∃ z, x = some z ∧ f z = some y := Option.bind_eq_some_iff.mp h
def lenC : List Nat := [1, 1, 1, 1, 3, 4, 4, 1, 1, 3, 21, 3, 2, 2, 59, 11, 25, 27]
def bytC : List (List Int32) := [[59], [40], [44], [41], [111, 114, 32], [97, 110, 100, 32], [110, 111, 116, 32], [91], [93], [60, 62, 61], [103, 101, 116, 115, 32, 108, 105, 110, 101, 32, 107, 101, 101, 112, 115, 32, 115, 117, 114, 101, 32], [105, 102, 32], [43, 45], [42, 47], [108, 105, 107, 101, 32, 100, 114, 111, 112, 32, 110, 101, 97, 114, 32, 115, 105, 122, 101, 32, 112, 97, 99, 101, 32, 102, 117, 108, 108, 32, 111, 100, 100, 32, 119, 97, 116, 99, 104, 32, 99, 104, 97, 110, 103, 101, 32, 107, 110, 111, 119, 115, 32, 116, 101, 110, 116, 104, 32], [108, 101, 97, 115, 116, 32, 109, 111, 115, 116, 32], [116, 104, 105, 110, 103, 32, 119, 97, 121, 32, 116, 104, 114, 111, 119, 32, 111, 100, 100, 32, 116, 117, 114, 110, 32], [107, 101, 101, 112, 32, 100, 114, 111, 112, 32, 99, 111, 117, 110, 116, 32, 114, 111, 111, 109, 32, 119, 97, 116, 99, 104, 32]]
def FU : Nat := 4096
theorem jx0  {B : Type} {f j : B}  {z : B} (hj : j = f) (h : j  = z) : f  = z := by subst hj; exact h
theorem jx1 {A0 : Type} {B : Type} {f j : A0 → B} {x0 : A0} {z : B} (hj : j = f) (h : j x0 = z) : f x0 = z := by subst hj; exact h
theorem jx2 {A0 : Type} {A1 : Type} {B : Type} {f j : A0 → A1 → B} {x0 : A0} {x1 : A1} {z : B} (hj : j = f) (h : j x0 x1 = z) : f x0 x1 = z := by subst hj; exact h
theorem jx3 {A0 : Type} {A1 : Type} {A2 : Type} {B : Type} {f j : A0 → A1 → A2 → B} {x0 : A0} {x1 : A1} {x2 : A2} {z : B} (hj : j = f) (h : j x0 x1 x2 = z) : f x0 x1 x2 = z := by subst hj; exact h
theorem jx4 {A0 : Type} {A1 : Type} {A2 : Type} {A3 : Type} {B : Type} {f j : A0 → A1 → A2 → A3 → B} {x0 : A0} {x1 : A1} {x2 : A2} {x3 : A3} {z : B} (hj : j = f) (h : j x0 x1 x2 x3 = z) : f x0 x1 x2 x3 = z := by subst hj; exact h
theorem jx5 {A0 : Type} {A1 : Type} {A2 : Type} {A3 : Type} {A4 : Type} {B : Type} {f j : A0 → A1 → A2 → A3 → A4 → B} {x0 : A0} {x1 : A1} {x2 : A2} {x3 : A3} {x4 : A4} {z : B} (hj : j = f) (h : j x0 x1 x2 x3 x4 = z) : f x0 x1 x2 x3 x4 = z := by subst hj; exact h
theorem jx6 {A0 : Type} {A1 : Type} {A2 : Type} {A3 : Type} {A4 : Type} {A5 : Type} {B : Type} {f j : A0 → A1 → A2 → A3 → A4 → A5 → B} {x0 : A0} {x1 : A1} {x2 : A2} {x3 : A3} {x4 : A4} {x5 : A5} {z : B} (hj : j = f) (h : j x0 x1 x2 x3 x4 x5 = z) : f x0 x1 x2 x3 x4 x5 = z := by subst hj; exact h
theorem jx7 {A0 : Type} {A1 : Type} {A2 : Type} {A3 : Type} {A4 : Type} {A5 : Type} {A6 : Type} {B : Type} {f j : A0 → A1 → A2 → A3 → A4 → A5 → A6 → B} {x0 : A0} {x1 : A1} {x2 : A2} {x3 : A3} {x4 : A4} {x5 : A5} {x6 : A6} {z : B} (hj : j = f) (h : j x0 x1 x2 x3 x4 x5 x6 = z) : f x0 x1 x2 x3 x4 x5 x6 = z := by subst hj; exact h
theorem jx8 {A0 : Type} {A1 : Type} {A2 : Type} {A3 : Type} {A4 : Type} {A5 : Type} {A6 : Type} {A7 : Type} {B : Type} {f j : A0 → A1 → A2 → A3 → A4 → A5 → A6 → A7 → B} {x0 : A0} {x1 : A1} {x2 : A2} {x3 : A3} {x4 : A4} {x5 : A5} {x6 : A6} {x7 : A7} {z : B} (hj : j = f) (h : j x0 x1 x2 x3 x4 x5 x6 x7 = z) : f x0 x1 x2 x3 x4 x5 x6 x7 = z := by subst hj; exact h
theorem bd_x {α β : Type} {e x : α} {k : α → β} {y : β} (hx : x = e) (h : bd e k = y) : k x = y := by subst hx; exact h
theorem bd_eq {α β : Type} (x : α) (k : α → β) : bd x k = k x := rfl
def ushr (x y : Int32) : Int32 := (x.toUInt32 >>> (y.toUInt32 &&& Int32.toUInt32 31)).toInt32
theorem jp_cut {F G : Type} {f : F} {g : F → G} {y : G} {P : Prop} (h : jp f g = y) (k : ∀ j : F, j = f → g j = y → P) : P := k f rfl h
theorem gR_wR {σ : HS} {k n j : Nat} : gR (wR σ k n) j = if j = k then n else gR σ j := rfl
def slen (i : Nat) : Int32 := nI (lenC.getD i 0)
def sch (i : Nat) (j : Int32) : Option Int32 := (ck (lenC.getD i 0) j).bind fun k => some ((bytC.getD i []).getD k 0)
def cpA (σ : HS) (r j i : Nat) : HS := wA σ r i (σ.1 r j)
def xq {α : Type} (t : Nat) (e k : α) : α := if t = 0 then k else e
theorem xq_0 {α : Type} {t : Nat} {e k : α} (h : t = 0) : xq t e k = k := if_pos h
theorem xq_ne {α : Type} {t : Nat} {e k : α} (h : t ≠ 0) : xq t e k = e := if_neg h
def nw (m : Nat) (n : Int32) : Option Nat := if n < 0 ∨ m < n.toNatClampNeg then none else some n.toNatClampNeg
theorem nw_in {m : Nat} {n : Int32} {k : Nat} (h : nw m n = some k) : ¬ n < 0 ∧ n.toNatClampNeg = k ∧ k ≤ m := by
  unfold nw at h
  by_cases hc : n < 0 ∨ m < n.toNatClampNeg
  · rw [if_pos hc] at h; cases h
  · rw [if_neg hc] at h
    cases h
    exact ⟨fun q => hc (Or.inl q), rfl, Nat.not_lt.mp fun q => hc (Or.inr q)⟩
def wN (σ : HS) (r i d k : Nat) : HS := wR (wA σ r i (fun _ => 0)) (d + i) k
theorem gR_wN {σ : HS} {r i d k j : Nat} : gR (wN σ r i d k) j = if j = d + i then k else gR σ j := rfl
theorem gI_wN {σ : HS} {r i d k r' i' j : Nat} : gI (wN σ r i d k) r' i' j = if r' = r ∧ i' = i then 0 else gI σ r' i' j := rfl
