/-! ===== a scene's text ===== -/
def scA (st : Nat → Nat → Int32) (c : SV) (j : Nat) (a : List Nat) : SV := (sN c + 1, fun k x => if k = sN c then (if x = 0 then nI j else if x ≤ a.length then nI (a.getD (x - 1) 0) else st (sN c) x) else sC c k x, if j = 0 then sT c + 1 else sT c, fun t x => if j = 0 ∧ t = sT c ∧ x < 2 then nI (a.getD x 0) else sH c t x)
def scS (st : Nat → Nat → Int32) (B : Nat → Int32) (n : Nat) : Nat → Nat → SV → PE SV
  | 0, _, c => .ok c
  | d + 1, p, c => match wdO 16 B n p with
    | none => if p = n then .ok c else .error (1, p)
    | some j => if sN c < 24 then (if j = 0 ∧ sT c = 8 then .error (3, p) else match scN B n (sk B n (wsE B n p)) (sT c) j with
      | .error e => .error e
      | .ok (a, q) => if sgB B n q 59 = true then scS st B n d (sk B n (q + 1)) (scA st c j a) else .error (1, q)) else .error (3, p)
theorem scA_n {st : Nat → Nat → Int32} {c : SV} {j : Nat} {a : List Nat} : sN (scA st c j a) = sN c + 1 := rfl
theorem scA_t {st : Nat → Nat → Int32} {c : SV} {j : Nat} {a : List Nat} : sT (scA st c j a) = if j = 0 then sT c + 1 else sT c := rfl
theorem scA_o {st : Nat → Nat → Int32} {c : SV} {j : Nat} {a : List Nat} {k x : Nat} (h : k < sN c) : sC (scA st c j a) k x = sC c k x := if_neg (by omega)
theorem scA_0 {st : Nat → Nat → Int32} {c : SV} {j : Nat} {a : List Nat} : sC (scA st c j a) (sN c) 0 = nI j := by
  show (if sN c = sN c then _ else _) = _
  rw [if_pos rfl, if_pos rfl]
theorem scA_x {st : Nat → Nat → Int32} {c : SV} {j : Nat} {a : List Nat} {x : Nat} (h : x < a.length) : sC (scA st c j a) (sN c) (x + 1) = nI (a.getD x 0) := by
  show (if sN c = sN c then _ else _) = _
  rw [if_pos rfl, if_neg (by omega), if_pos (by omega), Nat.add_sub_cancel]
theorem klS_A {st : Nat → Nat → Int32} {c : SV} {j : Nat} {a : List Nat} {x : Int32} : klS (scA st c j a) x = klS c x ++ if nI j = x then [sN c] else [] := by
  unfold klS
  rw [scA_n, List.range_succ, List.filter_append]
  congr 1
  · refine List.filter_congr fun k hk => ?_
    rw [scA_o (List.mem_range.mp hk)]
  · rw [List.filter_cons, scA_0]
    by_cases h : nI j = x
    · rw [if_pos (by simp [h]), if_pos h]; rfl
    · rw [if_neg (by simp [h]), if_neg h]; rfl
theorem foldl_cg {α : Type} {f g : α → Nat → α} : ∀ (l : List Nat), (∀ a k, k ∈ l → f a k = g a k) → ∀ a, l.foldl f a = l.foldl g a := by
  intro l
  induction l with
  | nil => intro _ a; rfl
  | cons k l ih => intro h a; rw [List.foldl_cons, List.foldl_cons, h a k List.mem_cons_self]; exact ih (fun a k hk => h a k (List.mem_cons_of_mem _ hk)) _
theorem oddS_A {st : Nat → Nat → Int32} {c : SV} {j : Nat} {a : List Nat} (ha : 0 < a.length) : oddS (scA st c j a) = if nI j = 3 then nI (a.getD 0 0) else oddS c := by
  unfold oddS
  rw [scA_n, List.range_succ, List.foldl_append, List.foldl_cons, List.foldl_nil, foldl_cg (g := oddF c) _ (fun b k hk => by unfold oddF; rw [scA_o (List.mem_range.mp hk), scA_o (List.mem_range.mp hk)])]
  unfold oddF
  rw [scA_0, scA_x ha]
theorem endS_A {st : Nat → Nat → Int32} {c : SV} {j : Nat} {a : List Nat} (ha : nI j = 1 → 4 < a.length) : endS (scA st c j a) = if nI j = 1 then mor (endS c) (nI (a.getD 4 0)) else endS c := by
  unfold endS
  rw [scA_n, List.range_succ, List.foldl_append, List.foldl_cons, List.foldl_nil, foldl_cg (g := endF c) _ (fun b k hk => by unfold endF; rw [scA_o (List.mem_range.mp hk), scA_o (List.mem_range.mp hk)])]
  by_cases h : nI j = 1
  · rw [if_pos h]
    show (if sC (scA st c j a) (sN c) 0 = 1 then mor _ (sC (scA st c j a) (sN c) 5) else _) = _
    rw [scA_0, if_pos h, scA_x (ha h)]
  · rw [if_neg h]
    show (if sC (scA st c j a) (sN c) 0 = 1 then _ else _) = _
    rw [scA_0, if_neg h]
theorem find_cg {p q : Nat → Bool} : ∀ (l : List Nat), (∀ k, k ∈ l → p k = q k) → l.find? p = l.find? q := by
  intro l
  induction l with
  | nil => intro _; rfl
  | cons k l ih => intro h; rw [List.find?_cons, List.find?_cons, h k List.mem_cons_self, ih (fun k hk => h k (List.mem_cons_of_mem _ hk))]
theorem trnS_A {st : Nat → Nat → Int32} {c : SV} {j : Nat} {a : List Nat} (hc : SWF c) (hT : sT c ≤ 8) (ha : 0 < a.length) : trnS (scA st c j a) = if nI j = 4 ∧ trnS c = -1 then nI (a.getD 0 0) else trnS c := by
  have e : (List.range (sN (scA st c j a))).find? (fun k => decide (sC (scA st c j a) k 0 = 4)) = ((List.range (sN c)).find? fun k => decide (sC c k 0 = 4)).or (if nI j = 4 then some (sN c) else none) := by
    rw [scA_n, List.range_succ, List.find?_append, find_cg (q := fun k => decide (sC c k 0 = 4)) _ (fun k hk => by rw [scA_o (List.mem_range.mp hk)])]
    congr 1
    rw [List.find?_cons, scA_0]
    by_cases h : nI j = 4
    · rw [decide_eq_true h, if_pos h]
    · rw [decide_eq_false h, if_neg h]; rfl
  have t := trnS_nI hc
  unfold trnS at t ⊢
  rw [e]
  cases hq : (List.range (sN c)).find? fun k => decide (sC c k 0 = 4) with
  | none =>
    rw [Option.none_or]
    by_cases h : nI j = 4
    · rw [if_pos h, if_pos ⟨h, rfl⟩]
      exact scA_x ha
    · rw [if_neg h, if_neg (fun q => h q.1)]; rfl
  | some k =>
    have hk : k < sN c := List.mem_range.mp (List.mem_of_find?_eq_some hq)
    rw [Option.some_or]
    rw [hq] at t
    have t' : sC c k 1 = -1 ∨ ∃ t, t < sT c ∧ sC c k 1 = nI t := t
    have h1 : sC c k 0 = 4 := of_decide_eq_true (List.find?_some (p := fun k => decide (sC c k 0 = 4)) hq)
    obtain ⟨⟨z, hz, ez⟩, -⟩ := hc.k4 hk h1
    show sC (scA st c j a) k 1 = if nI j = 4 ∧ sC c k 1 = -1 then _ else sC c k 1
    rw [scA_o hk, if_neg (fun q => nI_m1 (n := z) (by omega) (by rw [← ez]; exact q.2))]
/-- the ranges of a clause's numbers -/
def aOK (T j : Nat) (a : List Nat) : Prop :=
  (j = 0 → ∃ z s, a = [z, s] ∧ z < 8 ∧ 1 ≤ s ∧ s < 10) ∧ (j = 1 → ∃ t b x y e x' y', a = [t, b, x, y, e, x', y'] ∧ t < T ∧ b ≤ e ∧ e < 300 ∧ x < 40 ∧ y < 30 ∧ x' < 40 ∧ y' < 30) ∧ (j = 2 → ∃ t g e, a = [t, g, e] ∧ t < T ∧ g < T ∧ e < 300) ∧ (j = 3 → ∃ t, a = [t] ∧ t < T) ∧ (j = 4 → ∃ t e z, a = [t, e, z] ∧ t < T ∧ e < 300 ∧ z < 8)
theorem scN_ok {B : Nat → Int32} {n p T j : Nat} (hT : T ≤ 8) {a : List Nat} {q : Nat} (h : scN B n p T j = .ok (a, q)) : aOK T j a :=
  ⟨fun e => scN0 (by rw [e] at h; exact h), fun e => scN1 hT (by rw [e] at h; exact h), fun e => scN2 hT (by rw [e] at h; exact h), fun e => scN3 hT (by rw [e] at h; exact h), fun e => scN4 hT (by rw [e] at h; exact h)⟩
theorem aOK.pos {T j : Nat} {a : List Nat} (h : aOK T j a) (hj : j < 5) : 0 < a.length := by
  obtain ⟨h0, h1, h2, h3, h4⟩ := h
  match j, hj with
  | 0, _ => obtain ⟨z, s, e, -⟩ := h0 rfl; rw [e]; simp
  | 1, _ => obtain ⟨t, b, x, y, e', x', y', e, -⟩ := h1 rfl; rw [e]; simp
  | 2, _ => obtain ⟨t, g, e', e, -⟩ := h2 rfl; rw [e]; simp
  | 3, _ => obtain ⟨t, e, -⟩ := h3 rfl; rw [e]; simp
  | 4, _ => obtain ⟨t, e', z, e, -⟩ := h4 rfl; rw [e]; simp
theorem nI_3 {j k : Nat} (hj : j < 5) (hk : k < 5) : nI j = nI k ↔ j = k := nI_eq (by omega) (by omega)
theorem SWF.A {st : Nat → Nat → Int32} {c : SV} {j : Nat} {a : List Nat} (hc : SWF c) (hj : j < 5) (h : aOK (sT c) j a) : SWF (scA st c j a) := by
  have hT : sT c ≤ sT (scA st c j a) := by rw [scA_t]; split <;> omega
  refine ⟨fun k hk => ?_, fun t ht => ?_⟩
  · rw [scA_n] at hk
    by_cases e : k = sN c
    · subst e
      unfold kOK
      rw [scA_0]
      obtain ⟨h0, h1, h2, h3, h4⟩ := h
      match j, hj with
      | 0, _ =>
        obtain ⟨z, s, ea, r1, r2, r3⟩ := h0 rfl
        subst ea
        exact Or.inl ⟨rfl, ⟨z, r1, scA_x (x := 0) (by simp)⟩, s, r2, r3, scA_x (x := 1) (by simp)⟩
      | 1, _ =>
        obtain ⟨t, b, x, y, e', x', y', ea, r1, r2, r3, r4, r5, r6, r7⟩ := h1 rfl
        subst ea
        exact Or.inr (Or.inl ⟨rfl, ⟨t, by omega, scA_x (x := 0) (by simp)⟩, ⟨b, e', r2, r3, scA_x (x := 1) (by simp), scA_x (x := 4) (by simp)⟩, ⟨x, y, r4, r5, scA_x (x := 2) (by simp), scA_x (x := 3) (by simp)⟩, x', y', r6, r7, scA_x (x := 5) (by simp), scA_x (x := 6) (by simp)⟩)
      | 2, _ =>
        obtain ⟨t, g, e', ea, r1, r2, r3⟩ := h2 rfl
        subst ea
        exact Or.inr (Or.inr (Or.inl ⟨rfl, ⟨t, by omega, scA_x (x := 0) (by simp)⟩, ⟨g, by omega, scA_x (x := 1) (by simp)⟩, e', r3, scA_x (x := 2) (by simp)⟩))
      | 3, _ =>
        obtain ⟨t, ea, r1⟩ := h3 rfl
        subst ea
        exact Or.inr (Or.inr (Or.inr (Or.inl ⟨rfl, t, by omega, scA_x (x := 0) (by simp)⟩)))
      | 4, _ =>
        obtain ⟨t, e', z, ea, r1, r2, r3⟩ := h4 rfl
        subst ea
        exact Or.inr (Or.inr (Or.inr (Or.inr ⟨rfl, ⟨t, by omega, scA_x (x := 0) (by simp)⟩, ⟨e', r2, scA_x (x := 1) (by simp)⟩, z, r3, scA_x (x := 2) (by simp)⟩)))
    · have hk' : k < sN c := by omega
      have := hc.1 k hk'
      unfold kOK at this ⊢
      simp only [scA_o hk']
      have up : ∀ {v : Int32}, (∃ t, t < sT c ∧ v = nI t) → ∃ t, t < sT (scA st c j a) ∧ v = nI t := fun ⟨t, q1, q2⟩ => ⟨t, by omega, q2⟩
      rcases this with q | ⟨q1, q2, q3⟩ | ⟨q1, q2, q3, q4⟩ | ⟨q1, q2⟩ | ⟨q1, q2, q3⟩
      · exact Or.inl q
      · exact Or.inr (Or.inl ⟨q1, up q2, q3⟩)
      · exact Or.inr (Or.inr (Or.inl ⟨q1, up q2, up q3, q4⟩))
      · exact Or.inr (Or.inr (Or.inr (Or.inl ⟨q1, up q2⟩)))
      · exact Or.inr (Or.inr (Or.inr (Or.inr ⟨q1, up q2, q3⟩)))
  · show (∃ z, z < 8 ∧ (if j = 0 ∧ t = sT c ∧ 0 < 2 then nI (a.getD 0 0) else sH c t 0) = nI z) ∧ ∃ z, 1 ≤ z ∧ z < 10 ∧ (if j = 0 ∧ t = sT c ∧ 1 < 2 then nI (a.getD 1 0) else sH c t 1) = nI z
    rw [scA_t] at ht
    by_cases e : j = 0 ∧ t = sT c
    · rw [if_pos ⟨e.1, e.2, by decide⟩, if_pos ⟨e.1, e.2, by decide⟩]
      obtain ⟨z, s, ea, r1, r2, r3⟩ := h.1 e.1
      subst ea
      exact ⟨⟨z, r1, rfl⟩, s, r2, r3, rfl⟩
    · rw [if_neg (fun q => e ⟨q.1, q.2.1⟩), if_neg (fun q => e ⟨q.1, q.2.1⟩)]
      refine hc.2 t ?_
      by_cases e0 : j = 0
      · rw [if_pos e0] at ht
        have : t ≠ sT c := fun q => e ⟨e0, q⟩
        omega
      · rw [if_neg e0] at ht; exact ht
