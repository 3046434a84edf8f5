/-! ===== a table of rows ===== -/
theorem outerC_arrV (c : ClassId) (N h0 : Nat) : ∀ i, i ≤ N → Jvm.Free.Multi.outerC c N h0 i = arrV c N (fun j => if j < i then .ref (h0 + 1 + j) else .null) := by
  intro i
  induction i with
  | zero =>
    intro _
    show ({ cls := c, slots := Array.replicate N .null, vm := .none } : Cell) = _
    rw [arrV_new]
    refine arrV_ext fun j _ => ?_
    rw [if_neg (by omega)]
  | succ i ih =>
    intro hi
    show (Jvm.Free.Multi.outerC c N h0 i).setSlot i (.ref (h0 + 1 + i)) = _
    rw [ih (by omega), arrV_store]
    refine arrV_ext fun j _ => ?_
    by_cases e : j = i
    · subst e; simp [updV]
    · have e2 : (j < i + 1) = (j < i) := propext ⟨fun z => by omega, fun z => by omega⟩
      simp [updV, e, e2]
def upF (a : Nat → Nat → Nat) (t q n : Nat) : Nat → Nat → Nat := fun r' i' => if r' = t ∧ i' < n then q + 1 + i' else a r' i'
theorem RWm.addF {E : EV} {A : Nat → Nat → Prop} {P : Nat → Nat → Nat → Prop} {a : Nat → Nat → Nat} {H H1 : Heap} (h : RWm E A P a H) {t n : Nat} (hg : ∀ q : Nat, q < H.size → H1[q]? = H[q]?) (hb : eB E ≤ H.size) (hA : ∀ j, j < n → ¬ A t j) (hc : ∀ (a' : Nat → Nat → Nat) j, j < n → a' t j = H.size + 1 + j → cellF E a' t j H1 (fun _ => .int 0)) (ht : ¬ t < 10) (h92 : t ≠ 92) (hac : acode t = 0) (h0 : ∀ j k, gI σ0 t j k = 0) : ∀ j, j ≤ n → RWm E (fun r' i' => A r' i' ∨ (r' = t ∧ i' < j)) (fun r' i' k => P r' i' k ∨ (r' = t ∧ i' < j)) (upF a t H.size j) H1 := by
  intro j
  induction j with
  | zero =>
    intro _
    have e : upF a t H.size 0 = a := by funext r' i'; exact if_neg (by omega)
    rw [e]
    exact (h.grow hg).to (fun r i => ⟨fun z => z.elim id (fun z => absurd z.2 (by omega)), Or.inl⟩) (fun r i k z => z.elim id (fun z => absurd z.2 (by omega)))
  | succ j ih =>
    intro hj
    have e : upA (upF a t H.size j) t j (H.size + 1 + j) = upF a t H.size (j + 1) := by
      funext r' i'
      unfold upA upF
      by_cases c : r' = t ∧ i' = j
      · obtain ⟨rfl, rfl⟩ := c
        rw [if_pos ⟨rfl, rfl⟩, if_pos ⟨rfl, by omega⟩]
      · rw [if_neg c]
        by_cases d : r' = t ∧ i' < j
        · rw [if_pos d, if_pos ⟨d.1, by omega⟩]
        · rw [if_neg d, if_neg (fun z => by have : ¬ i' = j := fun q => c ⟨z.1, q⟩; exact d ⟨z.1, by omega⟩)]
    have k := (ih (by omega)).add h92 (r := t) (i := j) (q := H.size + 1 + j) (N := fun _ => True) (f := fun _ => .int 0) (fun z => z.elim (hA j (by omega)) (fun z => absurd z.2 (by omega))) (fun r' i' z q => by
      rcases z with z | ⟨rfl, z⟩
      · have hne : ¬ (r' = t ∧ i' < j) := fun w => hA i' (by omega) (by rw [← w.1]; exact z)
        have e1 : upF a t H.size j r' i' = a r' i' := if_neg hne
        have := h.lt z
        omega
      · have e1 : upF a r' H.size j r' i' = H.size + 1 + i' := if_pos ⟨rfl, z⟩
        omega) (by omega) (hc _ j (by omega) upA_self) (fun k _ => ⟨?_, fun t' j' hq => ?_⟩)
    · rw [e] at k
      refine k.to (fun r i => ⟨fun z => ?_, fun z => ?_⟩) (fun r i k z => ?_)
      · rcases z with z | ⟨rfl, z⟩
        · exact Or.inl (Or.inl z)
        · by_cases c : i = j
          · exact Or.inr ⟨rfl, c⟩
          · exact Or.inl (Or.inr ⟨rfl, by omega⟩)
      · rcases z with (z | ⟨rfl, z⟩) | ⟨rfl, rfl⟩
        · exact Or.inl z
        · exact Or.inr ⟨rfl, by omega⟩
        · exact Or.inr ⟨rfl, by omega⟩
      · rcases z with z | ⟨rfl, z⟩
        · exact Or.inl (Or.inl z)
        · by_cases c : i = j
          · exact Or.inr ⟨rfl, c, trivial⟩
          · exact Or.inl (Or.inr ⟨rfl, by omega⟩)
    · unfold slot
      rw [if_neg ht, hac, h0]
    · unfold rfo at hq
      rw [if_neg ht, hac] at hq
      cases hq
theorem rM_name : "[" ++ (FieldType.array .int).toString = "[[I" := by decide
section R8
variable {p : Program} {l : Launch} {e : Env} {R : Room} {s : State} {m : MethodId} {args : Array Value} {below : List Frame} {meth : Method} {c : Code} {H : Heap} {locs : List Loc} {cells slots mc ms : Nat} {Q : State → Prop}
variable {cc : ByteArray} {pc nL : Nat} {ls : Array Slot} {rest : List Value} {E : EV} {a a0 : Nat → Nat → Nat} {own : String} {A A0 : Nat → Nat → Prop} {P P0 : Nat → Nat → Nat → Prop}
def mA (A : Nat → Nat → Prop) (r N : Nat) : Nat → Nat → Prop := fun r' i' => A r' i' ∨ (r' = r + 1 ∧ i' < N) ∨ (r' = r ∧ i' = 0)
def mP (P : Nat → Nat → Nat → Prop) (r N : Nat) : Nat → Nat → Nat → Prop := fun r' i' k => P r' i' k ∨ (r' = r + 1 ∧ i' < N) ∨ (r' = r ∧ i' = 0 ∧ k < N)
theorem w_multi (C : CI E p s m args meth c cc nL own) (h : RWm E A P a H) (hS : va_S (AE E) s.heap H locs) (r : Nat) {n k : Int32} {N M index : Nat} (hA0 : ¬ A r 0) (hA1 : ∀ j, j < N → ¬ A (r + 1) j) (hr : ¬ r < 10) (hk : akind r = 6) (hac : acode r = r + 1 + 2) (ho : roff r = 0) (hl : lenS σ0 r 0 = N) (hk1 : akind (r + 1) = 0) (hac1 : acode (r + 1) = 0) (hl1 : ∀ j, lenS σ0 (r + 1) j = M) (h0 : ∀ j k, gI σ0 (r + 1) j k = 0) (hcl : Cond.classLink own index "[[I" ∈ GW) (hn : ¬ n < 0) (hkn : ¬ k < 0) (hN : n.toNatClampNeg = N) (hM : k.toNatClampNeg = M) (hb1 : N ≤ 1000) (hb2 : M ≤ 1000) (hc : cells + (1 + N) ≤ R.cells) (hs : slots + (N + N * M) ≤ R.slots) (hdg : decode cc pc = .ok (.multianewarray index 2, 4))
    (kk : ∀ (a' : Nat → Nat → Nat) (H1 : Heap), AGP A a a' → RWm E (mA A r N) (mP P r N) a' H1 → va_S (AE E) s.heap H1 locs → W p l e R s m args below meth c H1 locs (cells + 1 + N) (slots + N + N * M) Q (F0 m (pc + 4) ls (.ref (a' r 0) :: rest))) (h92 : r ≠ 92 ∧ r + 1 ≠ 92 := by decide) : W p l e R s m args below meth c H locs cells slots Q (F0 m pc ls (.int k :: .int n :: rest)) := by
  have C1 := C.1
  intro T hT X
  obtain ⟨vm₁, cA, comp, hW1, hfA, hfC, hO, hI, X1, st⟩ := X.multianewarray2F C1.1 (own := own) (index := index) (ty := .int) C1.2.2.2.1 (by rw [rM_name]; exact C1.2.2.2.2.1 _ hcl) (C.2.2 (.array .int) (by decide)).use (C1.2.2.2.2.1 _ aw_int) (g := F0 m pc ls (.int k :: .int n :: rest)) rfl (by rw [C1.2.1]; exact hdg) rfl hn hkn (by omega) (by show k.toNatClampNeg * 4 ≤ _; omega) (by omega) rfl rfl (by rw [hN]; exact hc) (by rw [hN, hM]; exact hs)
  rw [hN, hM] at X1 st
  have hcA : cA = eC E 6 := Option.some.inj (hfA.symm.trans (C1.2.2.2.2.2.2.1.2 6 (eC E 6, .array .int) rfl).2)
  have hcC : comp = eC E 0 := Option.some.inj (hfC.symm.trans (C1.2.2.2.2.2.2.1.2 0 (eC E 0, .int) rfl).2)
  subst hcA; subst hcC
  obtain ⟨f1, f2, f3, f4⟩ := Jvm.Free.Multi.fill_facts (T.setVm vm₁) (eC E 6) (eC E 0) N M (defaultValue .int) N
  have hT' : (T.setVm vm₁).heap = H := hT
  rw [hT'] at f1 f2
  have o1 : ∀ q : Nat, q < H.size → (Jvm.Free.Multi.fill (T.setVm vm₁) (eC E 6) (eC E 0) N M (defaultValue .int) N).heap[q]? = H[q]? := fun q hq => by
    rw [Jvm.Free.Multi.fill_old (T.setVm vm₁) (eC E 6) (eC E 0) N M (defaultValue .int) (by rw [hT']; exact hq), hT']
  have i1 : ∀ j, j < N → (Jvm.Free.Multi.fill (T.setVm vm₁) (eC E 6) (eC E 0) N M (defaultValue .int) N).heap[H.size + 1 + j]? = some (arrV (eC E 0) M (fun _ => .int 0)) := fun j hj => by
    have := Jvm.Free.Multi.fill_inner (T.setVm vm₁) (eC E 6) (eC E 0) N M (defaultValue .int) N j hj
    rw [hT'] at this
    rw [this]
    exact congrArg some (arrV_new _ _ _)
  rw [outerC_arrV _ _ _ _ (Nat.le_refl N)] at f2
  generalize hG : (Jvm.Free.Multi.fill (T.setVm vm₁) (eC E 6) (eC E 0) N M (defaultValue .int) N) = G at X1 st f1 f2 o1 i1
  have k1 := h.addF (t := r + 1) (n := N) o1 (ci_b C hS) hA1 (fun a' j hj e => by
    unfold cellF
    rw [if_neg (by omega), e, hk1, hl1]
    exact i1 j hj) (by omega) h92.2 hac1 h0 N (Nat.le_refl N)
  have k2 := k1.add h92.1 (r := r) (i := 0) (q := H.size) (N := fun k => k < N) (f := fun j => if j < N then .ref (H.size + 1 + j) else .null) (fun z => z.elim hA0 (fun z => by omega)) (fun r' i' z q => by
      rcases z with z | ⟨rfl, z⟩
      · have hne : ¬ (r' = r + 1 ∧ i' < N) := fun w => hA1 i' w.2 (by rw [← w.1]; exact z)
        have e1 : upF a (r + 1) H.size N r' i' = a r' i' := if_neg hne
        have := h.lt z
        omega
      · have e1 : upF a (r + 1) H.size N (r + 1) i' = H.size + 1 + i' := if_pos ⟨rfl, z⟩
        omega) (ci_b C hS) (by
    unfold cellF
    rw [if_neg hr, upA_self, hk, hl]
    exact f2) (fun k hk' => ⟨by
      unfold slot
      rw [if_neg hr, hac, ho, if_pos hk']
      show Value.ref (H.size + 1 + k) = Value.ref (upA (upF a (r + 1) H.size N) r 0 H.size (r + 1) (k + 0))
      have e1 : upF a (r + 1) H.size N (r + 1) (k + 0) = H.size + 1 + (k + 0) := if_pos ⟨rfl, hk'⟩
      rw [upA_ne (by omega), e1]
      rfl, fun t' j' hq => by
      unfold rfo at hq
      rw [if_neg hr, hac, ho] at hq
      cases hq
      exact Or.inr ⟨rfl, hk'⟩⟩)
  have k3 := kk (upA (upF a (r + 1) H.size N) r 0 H.size) G.heap (fun r' i' z => by
    rw [upA_ne (fun q => hA0 (by rw [← q.1, ← q.2]; exact z))]
    exact if_neg (fun w => hA1 i' w.2 (by rw [← w.1]; exact z))) (k2.to (fun r' i' => ⟨fun z => ?_, fun z => ?_⟩) (fun r' i' k z => ?_)) (hS.grow (by rw [f1]; omega) o1)
  · rw [upA_self] at k3
    obtain ⟨t, a1, b1⟩ := k3 G rfl X1
    refine ⟨t, st t ?_, b1⟩
    rw [hT]
    exact a1
  · rcases z with z | z | z
    · exact Or.inl (Or.inl z)
    · exact Or.inl (Or.inr z)
    · exact Or.inr z
  · rcases z with (z | z) | z
    · exact Or.inl z
    · exact Or.inr (Or.inl z)
    · exact Or.inr (Or.inr z)
  · rcases z with z | z | z
    · exact Or.inl (Or.inl z)
    · exact Or.inl (Or.inr z)
    · exact Or.inr z
end R8
