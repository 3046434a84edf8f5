/-! ===== a scene's clause: the numbers ===== -/
theorem inR_lt {V T : Nat} (hV : V < 2 ^ 31) (hT : T < 2 ^ 31) (h : inR (nI V) 0 (nI T - 1) = true) : V < T := by
  unfold inR at h
  simp only [Bool.and_eq_true, decide_eq_true_eq] at h
  have h2 := h.2
  cases T with
  | zero =>
    have a : (nI 0 - 1).toInt = -1 := rfl
    rw [Int32.le_iff_toInt_le, a, nI_toInt hV] at h2; omega
  | succ T =>
    rw [nI_pred] at h2
    have := (nI_leI hV (by omega)).mp h2
    omega
theorem inR_rg {V a b : Nat} (hV : V < 2 ^ 31) (ha : a < 2 ^ 31) (hb : b < 2 ^ 31) (h : inR (nI V) (nI a) (nI b) = true) : a ≤ V ∧ V ≤ b := by
  unfold inR at h
  simp only [Bool.and_eq_true, decide_eq_true_eq] at h
  exact ⟨(nI_leI ha hV).mp h.1, (nI_leI hV hb).mp h.2⟩
theorem stN_in {B : Nat → Int32} {n : Nat} {s : PE (List Nat × Nat)} {f : List Nat → Int32 × Int32 × Int32} {b : List Nat} {q : Nat} (h : stN B n s f = .ok (b, q)) (hy : ∀ a, (f a).2.1 < nI 100000) : ∃ a p V, s = .ok (a, p) ∧ b = a ++ [V] ∧ inR (nI V) (f a).1 (f a).2.1 = true ∧ nI V ≠ (f a).2.2 ∧ V < 100000 ∧ ∃ e, numO 100000 B n p (f a).1 (f a).2.1 (f a).2.2 = .ok (V, e) ∧ q = sk B n e := by
  cases s with
  | error e => cases h
  | ok ap =>
    obtain ⟨a, p⟩ := ap
    simp only [stN] at h
    cases hN : numO 100000 B n p (f a).1 (f a).2.1 (f a).2.2 with
    | error e => rw [hN] at h; cases h
    | ok Ve =>
      obtain ⟨V, e⟩ := Ve
      rw [hN] at h
      injection h with h
      injection h with h1 h2
      have hV := numO_lt (hy a) hN
      refine ⟨a, p, V, rfl, h1.symm, ?_, ?_, hV, e, hN, h2.symm⟩
      · unfold numO at hN
        split at hN
        · split at hN
          · rename_i c
            injection hN with hN
            injection hN with hN1 hN2
            rw [hN1, Nat.min_eq_left (by omega)] at c
            exact c.1
          · cases hN
        · cases hN
      · unfold numO at hN
        split at hN
        · split at hN
          · rename_i c
            injection hN with hN
            injection hN with hN1 hN2
            rw [hN1, Nat.min_eq_left (by omega)] at c
            exact c.2
          · cases hN
        · cases hN
def scF (T j : Nat) : List (List Nat → Int32 × Int32 × Int32) :=
  if j = 0 then [fun _ => (0, 7, -1), fun _ => (1, 9, -1)]
  else if j = 1 then [fun _ => (0, nI T - 1, -1), fun _ => (0, 299, -1), fun _ => (0, 39, -1), fun _ => (0, 29, -1), fun a => (nI (a.getD 1 0), 299, -1), fun _ => (0, 39, -1), fun _ => (0, 29, -1)]
  else if j = 2 then [fun _ => (0, nI T - 1, -1), fun a => (0, nI T - 1, nI (a.getD 0 0)), fun _ => (0, 299, -1)]
  else if j = 3 then [fun _ => (0, nI T - 1, -1)]
  else [fun _ => (0, nI T - 1, -1), fun _ => (0, 299, -1), fun _ => (0, 7, -1)]
def scN (B : Nat → Int32) (n p T j : Nat) : PE (List Nat × Nat) := (scF T j).foldl (stN B n) (.ok ([], p))
theorem T1_lt {T : Nat} (h : T ≤ 8) : nI T - 1 < nI 100000 := by
  rcases (show T = 0 ∨ T = 1 ∨ T = 2 ∨ T = 3 ∨ T = 4 ∨ T = 5 ∨ T = 6 ∨ T = 7 ∨ T = 8 by omega) with q | q | q | q | q | q | q | q | q <;> subst q <;> decide
theorem scN0 {B : Nat → Int32} {n p T : Nat} {a : List Nat} {q : Nat} (h : scN B n p T 0 = .ok (a, q)) : ∃ z s, a = [z, s] ∧ z < 8 ∧ 1 ≤ s ∧ s < 10 := by
  change stN B n (stN B n (.ok ([], p)) (fun _ => (0, 7, -1))) (fun _ => (1, 9, -1)) = .ok (a, q) at h
  obtain ⟨a2, p2, V2, h2, b2, r2, -, l2, -⟩ := stN_in h (fun _ => by decide)
  obtain ⟨a1, p1, V1, h1, b1, r1, -, l1, -⟩ := stN_in h2 (fun _ => by decide)
  injection h1 with h1
  injection h1 with h1 _
  have x1 := inR_rg (a := 0) (b := 7) (by omega) (by decide) (by decide) r1
  have x2 := inR_rg (a := 1) (b := 9) (by omega) (by decide) (by decide) r2
  exact ⟨V1, V2, by rw [b2, b1, ← h1]; rfl, by omega, by omega, by omega⟩
theorem scN1 {B : Nat → Int32} {n p T : Nat} (hT : T ≤ 8) {a : List Nat} {q : Nat} (h : scN B n p T 1 = .ok (a, q)) : ∃ t b x y e x' y', a = [t, b, x, y, e, x', y'] ∧ t < T ∧ b ≤ e ∧ e < 300 ∧ x < 40 ∧ y < 30 ∧ x' < 40 ∧ y' < 30 := by
  have h : stN B n (stN B n (stN B n (stN B n (stN B n (stN B n (stN B n (.ok ([], p)) (fun _ => (0, nI T - 1, -1))) (fun _ => (0, 299, -1))) (fun _ => (0, 39, -1))) (fun _ => (0, 29, -1))) (fun a => (nI (a.getD 1 0), 299, -1))) (fun _ => (0, 39, -1))) (fun _ => (0, 29, -1)) = .ok (a, q) := h
  obtain ⟨a7, p7, V7, h7, b7, r7, -, l7, -⟩ := stN_in h (fun _ => by decide)
  obtain ⟨a6, p6, V6, h6, b6, r6, -, l6, -⟩ := stN_in h7 (fun _ => by decide)
  obtain ⟨a5, p5, V5, h5, b5, r5, -, l5, -⟩ := stN_in h6 (fun _ => show (299 : Int32) < nI 100000 by decide)
  obtain ⟨a4, p4, V4, h4, b4, r4, -, l4, -⟩ := stN_in h5 (fun _ => by decide)
  obtain ⟨a3, p3, V3, h3, b3, r3, -, l3, -⟩ := stN_in h4 (fun _ => by decide)
  obtain ⟨a2, p2, V2, h2, b2, r2, -, l2, -⟩ := stN_in h3 (fun _ => by decide)
  obtain ⟨a1, p1, V1, h1, b1, r1, -, l1, -⟩ := stN_in h2 (fun _ => T1_lt hT)
  injection h1 with h1
  injection h1 with h1 _
  have e5 : a5 = [V1, V2, V3, V4] := by rw [b4, b3, b2, b1, ← h1]; rfl
  have x1 := inR_lt (by omega) (by omega) r1
  have x2 := inR_rg (a := 0) (b := 299) (by omega) (by decide) (by decide) r2
  have x3 := inR_rg (a := 0) (b := 39) (by omega) (by decide) (by decide) r3
  have x4 := inR_rg (a := 0) (b := 29) (by omega) (by decide) (by decide) r4
  rw [e5] at r5
  have x5 := inR_rg (a := V2) (b := 299) (by omega) (by omega) (by decide) r5
  have x6 := inR_rg (a := 0) (b := 39) (by omega) (by decide) (by decide) r6
  have x7 := inR_rg (a := 0) (b := 29) (by omega) (by decide) (by decide) r7
  exact ⟨V1, V2, V3, V4, V5, V6, V7, by rw [b7, b6, b5, e5]; rfl, by omega, by omega, by omega, by omega, by omega, by omega, by omega⟩
theorem scN2 {B : Nat → Int32} {n p T : Nat} (hT : T ≤ 8) {a : List Nat} {q : Nat} (h : scN B n p T 2 = .ok (a, q)) : ∃ t g e, a = [t, g, e] ∧ t < T ∧ g < T ∧ e < 300 := by
  have h : stN B n (stN B n (stN B n (.ok ([], p)) (fun _ => (0, nI T - 1, -1))) (fun a => (0, nI T - 1, nI (a.getD 0 0)))) (fun _ => (0, 299, -1)) = .ok (a, q) := h
  obtain ⟨a3, p3, V3, h3, b3, r3, -, l3, -⟩ := stN_in h (fun _ => by decide)
  obtain ⟨a2, p2, V2, h2, b2, r2, -, l2, -⟩ := stN_in h3 (fun _ => T1_lt hT)
  obtain ⟨a1, p1, V1, h1, b1, r1, -, l1, -⟩ := stN_in h2 (fun _ => T1_lt hT)
  injection h1 with h1
  injection h1 with h1 _
  have x1 := inR_lt (by omega) (by omega) r1
  have x2 := inR_lt (by omega) (by omega) r2
  have x3 := inR_rg (a := 0) (b := 299) (by omega) (by decide) (by decide) r3
  exact ⟨V1, V2, V3, by rw [b3, b2, b1, ← h1]; rfl, by omega, by omega, by omega⟩
theorem scN3 {B : Nat → Int32} {n p T : Nat} (hT : T ≤ 8) {a : List Nat} {q : Nat} (h : scN B n p T 3 = .ok (a, q)) : ∃ t, a = [t] ∧ t < T := by
  have h : stN B n (.ok ([], p)) (fun _ => (0, nI T - 1, -1)) = .ok (a, q) := h
  obtain ⟨a1, p1, V1, h1, b1, r1, -, l1, -⟩ := stN_in h (fun _ => T1_lt hT)
  injection h1 with h1
  injection h1 with h1 _
  have x1 := inR_lt (by omega) (by omega) r1
  exact ⟨V1, by rw [b1, ← h1]; rfl, by omega⟩
theorem scN4 {B : Nat → Int32} {n p T : Nat} (hT : T ≤ 8) {a : List Nat} {q : Nat} (h : scN B n p T 4 = .ok (a, q)) : ∃ t e z, a = [t, e, z] ∧ t < T ∧ e < 300 ∧ z < 8 := by
  have h : stN B n (stN B n (stN B n (.ok ([], p)) (fun _ => (0, nI T - 1, -1))) (fun _ => (0, 299, -1))) (fun _ => (0, 7, -1)) = .ok (a, q) := h
  obtain ⟨a3, p3, V3, h3, b3, r3, -, l3, -⟩ := stN_in h (fun _ => by decide)
  obtain ⟨a2, p2, V2, h2, b2, r2, -, l2, -⟩ := stN_in h3 (fun _ => by decide)
  obtain ⟨a1, p1, V1, h1, b1, r1, -, l1, -⟩ := stN_in h2 (fun _ => T1_lt hT)
  injection h1 with h1
  injection h1 with h1 _
  have x1 := inR_lt (by omega) (by omega) r1
  have x2 := inR_rg (a := 0) (b := 299) (by omega) (by decide) (by decide) r2
  have x3 := inR_rg (a := 0) (b := 7) (by omega) (by decide) (by decide) r3
  exact ⟨V1, V2, V3, by rw [b3, b2, b1, ← h1]; rfl, by omega, by omega, by omega⟩
/-! the class: numbers into a row -/
def NR (B : Nat → Int32) (n r i base m : Nat) (s : PE (List Nat × Nat)) (u0 u : HS) : Prop := CPs B n (psP s) u ∧ ((∀ r', r' ≠ 5 → r' ≠ r → gI u r' = gI u0 r') ∧ (∀ i', i' ≠ i → gI u r i' = gI u0 r i') ∧ (∀ k, k ∉ [3, 4, 5, 6] → gI u 5 0 k = gI u0 5 0 k) ∧ gR u = gR u0) ∧ (∀ k, k < base → gI u r i k = gI u0 r i k) ∧ ∀ a p, s = .ok (a, p) → a.length = m ∧ ∀ j, j < m → gI u r i (base + j) = nI (a.getD j 0)
theorem NR.z {B : Nat → Int32} {n r i base p : Nat} {u : HS} (h : CPs B n (.ok p) u) : NR B n r i base 0 (.ok ([], p)) u u :=
  ⟨h, ⟨fun _ _ _ => rfl, fun _ _ => rfl, fun _ _ => rfl, rfl⟩, fun _ _ => rfl, fun a p ha => by injection ha with ha; injection ha with ha _; rw [← ha]; exact ⟨rfl, fun j hj => absurd hj (Nat.not_lt_zero j)⟩⟩
theorem NR.step {B : Nat → Int32} {n r i base m : Nat} {s : PE (List Nat × Nat)} {u0 u : HS} (h : NR B n r i base m s u0 u) (hr : r ≠ 5 ∧ r ≠ 45) (f : List Nat → Int32 × Int32 × Int32) (x y : Int32) (hxy : ∀ a p, s = .ok (a, p) → f a = (x, y, -1) ∧ y < nI 100000) : ∃ val u1, mX5_demandNumber u x y = some (val, u1) ∧ NR B n r i base (m + 1) (stN B n s f) u0 (wI u1 r i (base + m) val) ∧ (∀ a p, s = .ok (a, p) → ∀ b q, stN B n s f = .ok (b, q) → gI u1 5 0 4 = nI p) ∧ ∀ r', r' ≠ 5 → gI u1 r' = gI u r' := by
  obtain ⟨h1, ⟨g1, g2, g3, g4⟩, h3, h4⟩ := h
  obtain ⟨val, u1, e1, f1, c1, v1⟩ := cNumS s f x y h1 hxy
  refine ⟨val, u1, e1, ⟨c1.w (Ne.symm hr.1) (Ne.symm hr.2), ⟨fun r' a b => by rw [gI_r b, f1.1 r' a, g1 r' a b], fun i' a => by rw [gI_ri a, f1.1 r hr.1, g2 i' a], fun k hk => by rw [gI_r (Ne.symm hr.1), f1.2.1 k hk, g3 k hk], f1.2.2.trans g4⟩, fun k hk => by rw [gI_k (by omega), f1.1 r hr.1, h3 k hk], fun b q hb => ?_⟩, fun a p ha b q hb => ?_, f1.1⟩
  · cases s with
    | error e => cases hb
    | ok ap =>
      obtain ⟨a, p⟩ := ap
      obtain ⟨V, hb1, hv, hV, -⟩ := v1 a p rfl b q hb
      obtain ⟨l1, l2⟩ := h4 a p rfl
      refine ⟨by rw [hb1, List.length_append, l1]; rfl, fun j hj => ?_⟩
      by_cases c : j = m
      · rw [c, gI_eq, hv, hb1, List.getD_eq_getElem?_getD, List.getElem?_append_right (by omega), l1, Nat.sub_self]; rfl
      · rw [gI_k (by omega), f1.1 r hr.1, l2 j (by omega), hb1, List.getD_eq_getElem?_getD, List.getD_eq_getElem?_getD, List.getElem?_append_left (by omega)]
  · obtain ⟨V, -, -, -, t⟩ := v1 a p ha b q hb
    exact t
