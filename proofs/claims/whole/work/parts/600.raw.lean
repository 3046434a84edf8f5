/-! ===== the world while it is made: cells that are there (A), places that hold what they hold at the start (P) ===== -/
/-- where a place points -/
def rfo (r i k : Nat) : Option (Nat × Nat) := if r < 10 then (match fcode r k with
    | 0 => none
    | t + 1 => some (t, ridx σ0 r i k)) else (match acode r with
    | 0 => none
    | 1 => none
    | t + 2 => some (t, k + roff r))
def ivS (a : Nat → Nat → Nat) (r i k : Nat) : Value := if r < 10 then .int (gI σ0 r i k) else (match acode r with
    | 0 => .int (gI σ0 r i k)
    | _ => .long (if r = 90 then dL (a 92 k) else gL σ0 r i k))
theorem slot_rfo {a : Nat → Nat → Nat} {r i k : Nat} : slot a σ0 r i k = (match rfo r i k with
    | none => ivS a r i k
    | some q => .ref (a q.1 q.2)) := by
  unfold slot rfo ivS
  by_cases hr : r < 10
  · simp only [if_pos hr]
    cases fcode r k <;> rfl
  · simp only [if_neg hr]
    match acode r with
    | 0 => rfl
    | 1 => rfl
    | t + 2 => rfl
theorem slot_ext {a b : Nat → Nat → Nat} {r i k : Nat} (h : ∀ t j, rfo r i k = some (t, j) → a t j = b t j) (h92 : r = 90 → a 92 k = b 92 k) : slot a σ0 r i k = slot b σ0 r i k := by
  rw [slot_rfo, slot_rfo]
  cases hq : rfo r i k with
  | none =>
    show ivS a r i k = ivS b r i k
    unfold ivS
    by_cases c : r = 90
    · rw [h92 c]
    · rw [if_neg c, if_neg c]
  | some q => exact congrArg Value.ref (h q.1 q.2 hq)
def cellF (E : EV) (a : Nat → Nat → Nat) (r i : Nat) (H : Heap) (f : Nat → Value) : Prop := if r < 10 then t_OB (a r i) ((eD E).1 r) (nfS r) ((eD E).2 r) H f else H[a r i]? = some (arrV (eC E (akind r)) (lenS σ0 r i) f)
theorem cellF.kept {E : EV} {a : Nat → Nat → Nat} {r i : Nat} {H H1 : Heap} {f : Nat → Value} (h : cellF E a r i H f) (hq : H1[a r i]? = H[a r i]?) : cellF E a r i H1 f := by
  unfold cellF at h ⊢
  by_cases hr : r < 10
  · rw [if_pos hr] at h ⊢; exact h.kept hq
  · rw [if_neg hr] at h ⊢; rw [hq]; exact h
theorem cellF.mv {E : EV} {a b : Nat → Nat → Nat} {r i : Nat} {H : Heap} {f : Nat → Value} (h : cellF E a r i H f) (e : b r i = a r i) : cellF E b r i H f := by
  unfold cellF at h ⊢
  rw [e]; exact h
theorem cellF.lt {E : EV} {a : Nat → Nat → Nat} {r i : Nat} {H : Heap} {f : Nat → Value} (h : cellF E a r i H f) : a r i < H.size := by
  unfold cellF at h
  by_cases hr : r < 10
  · rw [if_pos hr] at h
    obtain ⟨cell, q1, -⟩ := h
    exact (Array.getElem?_eq_some_iff.mp q1).1
  · rw [if_neg hr] at h
    exact (Array.getElem?_eq_some_iff.mp h).1
def RWm (E : EV) (A : Nat → Nat → Prop) (P : Nat → Nat → Nat → Prop) (a : Nat → Nat → Nat) (H : Heap) : Prop :=
  (∀ r i, A r i → ∃ f, cellF E a r i H f ∧ ∀ k, P r i k → f k = slot a σ0 r i k) ∧ (∀ r i r' i', A r i → A r' i' → a r i = a r' i' → r = r' ∧ i = i') ∧ (∀ r i, A r i → eB E ≤ a r i) ∧ ∀ r i k, P r i k → A r i ∧ ∀ t j, rfo r i k = some (t, j) → A t j
def aA (A : Nat → Nat → Prop) (r i : Nat) : Nat → Nat → Prop := fun r' i' => A r' i' ∨ (r' = r ∧ i' = i)
def aP (P : Nat → Nat → Nat → Prop) (r i : Nat) (N : Nat → Prop) : Nat → Nat → Nat → Prop := fun r' i' k => P r' i' k ∨ (r' = r ∧ i' = i ∧ N k)
theorem RWm.grow {E : EV} {A : Nat → Nat → Prop} {P : Nat → Nat → Nat → Prop} {a : Nat → Nat → Nat} {H H1 : Heap} (h : RWm E A P a H) (hq : ∀ q : Nat, q < H.size → H1[q]? = H[q]?) : RWm E A P a H1 := by
  refine ⟨fun r i hA => ?_, h.2⟩
  obtain ⟨f, h1, h2⟩ := h.1 r i hA
  exact ⟨f, h1.kept (hq _ h1.lt), h2⟩
theorem RWm.lt {E : EV} {A : Nat → Nat → Prop} {P : Nat → Nat → Nat → Prop} {a : Nat → Nat → Nat} {H : Heap} (h : RWm E A P a H) {r i : Nat} (hA : A r i) : a r i < H.size := by
  obtain ⟨f, h1, -⟩ := h.1 r i hA
  exact h1.lt
theorem upA_self {a : Nat → Nat → Nat} {r i q : Nat} : upA a r i q r i = q := if_pos ⟨rfl, rfl⟩
theorem upA_ne {a : Nat → Nat → Nat} {r i q r' i' : Nat} (h : ¬ (r' = r ∧ i' = i)) : upA a r i q r' i' = a r' i' := if_neg h
theorem RWm.add {E : EV} {A : Nat → Nat → Prop} {P : Nat → Nat → Nat → Prop} {a : Nat → Nat → Nat} {H : Heap} (h : RWm E A P a H) {r i q : Nat} {N : Nat → Prop} {f : Nat → Value} (h92 : r ≠ 92) (hn : ¬ A r i) (hf : ∀ r' i', A r' i' → a r' i' ≠ q) (hb : eB E ≤ q) (hc : cellF E (upA a r i q) r i H f) (hN : ∀ k, N k → f k = slot (upA a r i q) σ0 r i k ∧ ∀ t j, rfo r i k = some (t, j) → A t j) : RWm E (aA A r i) (aP P r i N) (upA a r i q) H := by
  have hne : ∀ r' i', A r' i' → ¬ (r' = r ∧ i' = i) := fun r' i' hA z => hn (by rw [← z.1, ← z.2]; exact hA)
  refine ⟨fun r' i' hA => ?_, fun r1 i1 r2 i2 h1 h2 he => ?_, fun r' i' hA => ?_, fun r' i' k hP => ?_⟩
  · rcases hA with hA | ⟨rfl, rfl⟩
    · obtain ⟨f', c1, c2⟩ := h.1 r' i' hA
      refine ⟨f', c1.mv (upA_ne (hne _ _ hA)), fun k hP => ?_⟩
      rcases hP with hP | ⟨e1, e2, -⟩
      · rw [c2 k hP]
        exact slot_ext (fun t j ht => (upA_ne (hne _ _ ((h.2.2.2 _ _ _ hP).2 t j ht))).symm) (fun _ => (upA_ne (fun z => h92 z.1.symm)).symm)
      · exact absurd ⟨e1, e2⟩ (hne _ _ hA)
    · refine ⟨f, hc, fun k hP => ?_⟩
      rcases hP with hP | ⟨-, -, hk⟩
      · exact absurd (h.2.2.2 _ _ _ hP).1 hn
      · exact (hN k hk).1
  · rcases h1 with h1 | ⟨rfl, rfl⟩
    · rcases h2 with h2 | ⟨rfl, rfl⟩
      · rw [upA_ne (hne _ _ h1), upA_ne (hne _ _ h2)] at he
        exact h.2.1 _ _ _ _ h1 h2 he
      · rw [upA_ne (hne _ _ h1), upA_self] at he
        exact absurd he (hf _ _ h1)
    · rcases h2 with h2 | ⟨rfl, rfl⟩
      · rw [upA_ne (hne _ _ h2), upA_self] at he
        exact absurd he.symm (hf _ _ h2)
      · exact ⟨rfl, rfl⟩
  · rcases hA with hA | ⟨rfl, rfl⟩
    · rw [upA_ne (hne _ _ hA)]; exact h.2.2.1 _ _ hA
    · rw [upA_self]; exact hb
  · rcases hP with hP | ⟨rfl, rfl, hk⟩
    · exact ⟨Or.inl (h.2.2.2 _ _ _ hP).1, fun t j ht => Or.inl ((h.2.2.2 _ _ _ hP).2 t j ht)⟩
    · exact ⟨Or.inr ⟨rfl, rfl⟩, fun t j ht => Or.inl ((hN k hk).2 t j ht)⟩
theorem RWm.put {E : EV} {A : Nat → Nat → Prop} {P : Nat → Nat → Nat → Prop} {a : Nat → Nat → Nat} {H H1 : Heap} (h : RWm E A P a H) {r i k : Nat} {v : Value} {f : Nat → Value} (hA : A r i) (hf : ∀ k', P r i k' → f k' = slot a σ0 r i k') (hv : slot a σ0 r i k = v) (hr : ∀ t j, rfo r i k = some (t, j) → A t j) (hc : cellF E a r i H1 (updV f k v)) (ho : ∀ q, q ≠ a r i → H1[q]? = H[q]?) : RWm E A (aP P r i (fun k' => k' = k)) a H1 := by
  refine ⟨fun r' i' hA' => ?_, h.2.1, h.2.2.1, fun r' i' k' hP => ?_⟩
  · by_cases e : r' = r ∧ i' = i
    · obtain ⟨rfl, rfl⟩ := e
      refine ⟨_, hc, fun k' hP => ?_⟩
      by_cases ek : k' = k
      · subst ek
        rw [hv]; simp [updV]
      · have e2 : updV f k v k' = f k' := by simp [updV, ek]
        rw [e2]
        rcases hP with hP | ⟨-, -, z⟩
        · exact hf k' hP
        · exact absurd z ek
    · obtain ⟨f', c1, c2⟩ := h.1 r' i' hA'
      refine ⟨f', c1.kept (ho _ fun z => e (h.2.1 _ _ _ _ hA' hA z)), fun k' hP => ?_⟩
      rcases hP with hP | ⟨z1, z2, -⟩
      · exact c2 k' hP
      · exact absurd ⟨z1, z2⟩ e
  · rcases hP with hP | ⟨rfl, rfl, rfl⟩
    · exact h.2.2.2 _ _ _ hP
    · exact ⟨hA, hr⟩
theorem RWm.to {E : EV} {A A' : Nat → Nat → Prop} {P P' : Nat → Nat → Nat → Prop} {a : Nat → Nat → Nat} {H : Heap} (h : RWm E A P a H) (hA : ∀ r i, A' r i ↔ A r i) (hP : ∀ r i k, P' r i k → P r i k) : RWm E A' P' a H :=
  ⟨fun r i q => by obtain ⟨f, c1, c2⟩ := h.1 r i ((hA r i).mp q); exact ⟨f, c1, fun k z => c2 k (hP _ _ _ z)⟩, fun r i r' i' q1 q2 => h.2.1 r i r' i' ((hA _ _).mp q1) ((hA _ _).mp q2), fun r i q => h.2.2.1 r i ((hA _ _).mp q), fun r i k z => ⟨(hA _ _).mpr (h.2.2.2 _ _ _ (hP _ _ _ z)).1, fun t j ht => (hA _ _).mpr ((h.2.2.2 _ _ _ (hP _ _ _ z)).2 t j ht)⟩⟩
def szS (r i : Nat) : Nat := if r < 10 then nfS r else lenS σ0 r i
theorem RWm.rel {E : EV} {A : Nat → Nat → Prop} {P : Nat → Nat → Nat → Prop} {a : Nat → Nat → Nat} {H : Heap} (h : RWm E A P a H) (hA : ∀ r i, lvS σ0 r i → A r i) (hP : ∀ r i k, lvS σ0 r i → k < szS r i → P r i k) : Rel E a σ0 H := by
  refine ⟨fun r i hl => ?_, fun r i r' i' h1 h2 => h.2.1 r i r' i' (hA _ _ h1) (hA _ _ h2), fun r i hl => h.2.2.1 r i (hA _ _ hl), by decide⟩
  obtain ⟨f, c1, c2⟩ := h.1 r i (hA r i hl)
  have c3 : ∀ k, k < szS r i → f k = slot a σ0 r i k := fun k hk => c2 k (hP r i k hl hk)
  unfold szS at c3
  unfold cellF at c1
  unfold cellOK
  by_cases hr : r < 10
  · rw [if_pos hr] at c1 c3 ⊢
    exact c1.to c3
  · rw [if_neg hr] at c1 c3 ⊢
    rw [c1]
    exact congrArg some (arrV_ext c3)
theorem RWm.set92 {E : EV} {A : Nat → Nat → Prop} {P : Nat → Nat → Nat → Prop} {a : Nat → Nat → Nat} {H : Heap} (h : RWm E A P a H) (hA : ∀ i, ¬ A 92 i) (hP : ∀ i k, ¬ P 90 i k) : RWm E A P (fun r i => if r = 92 then 0 else a r i) H := by
  have e : ∀ r i, A r i → (if r = 92 then 0 else a r i) = a r i := fun r i z => if_neg (fun q => hA i (by rw [← q]; exact z))
  refine ⟨fun r i z => ?_, fun r i r' i' z1 z2 q => ?_, fun r i z => ?_, h.2.2.2⟩
  · obtain ⟨f, c1, c2⟩ := h.1 r i z
    refine ⟨f, c1.mv (e r i z), fun k hk => (c2 k hk).trans (slot_ext (fun t j ht => (e t j ((h.2.2.2 _ _ _ hk).2 t j ht)).symm) (fun q => absurd (by rw [← q]; exact hk) (hP i k)))⟩
  · have q' : (if r = 92 then 0 else a r i) = (if r' = 92 then 0 else a r' i') := q
    rw [e r i z1, e r' i' z2] at q'
    exact h.2.1 _ _ _ _ z1 z2 q'
  · show eB E ≤ (if r = 92 then 0 else a r i)
    rw [e r i z]; exact h.2.2.1 r i z
