/-! ===== the law's own array ===== -/
section R11
variable {p : Program} {l : Launch} {e : Env} {R : Room} {s : State} {m : MethodId} {args : Array Value} {below : List Frame} {meth : Method} {c : Code} {H : Heap} {locs : List Loc} {cells slots mc ms : Nat} {Q : State → Prop}
variable {cc : ByteArray} {pc nL : Nat} {ls : Array Slot} {rest : List Value} {E : EV} {a a0 : Nat → Nat → Nat} {own : String} {A A0 : Nat → Nat → Prop} {P P0 : Nat → Nat → Nat → Prop}
theorem w_newO (C : CI E p s m args meth c cc nL own) (h : RWm E A P a H) (hS : va_S (AE E) s.heap H locs) (hA : ¬ A 90 0) (hA92 : ∀ i, ¬ A 92 i) (hP : ∀ i k, ¬ P 90 i k) (hc : cells + 1 ≤ R.cells) (hs : slots + 1 ≤ R.slots) (hdg : decode cc pc = .ok (.newarray .long, 2))
    (kk : ∀ (a' : Nat → Nat → Nat) (H1 : Heap), AGP A a a' → RWm E (aA A 90 0) (aP P 90 0 (fun _ => True)) a' H1 → va_S (AE E) s.heap H1 locs → W p l e R s m args below meth c H1 locs (cells + 1) (slots + 1) Q (F0 m (pc + 2) ls (.ref (a' 90 0) :: rest))) : W p l e R s m args below meth c H locs cells slots Q (F0 m pc ls (.int 1 :: rest)) := by
  have C1 := C.1
  refine va_newaK C1.1 C1.2.1 (atype := .long) (C1.2.2.2.2.1 _ aw_long) rfl hdg rfl (by decide) (N := 1) (by decide) (by decide) hc hs rfl fun H1 cA e1 z1 o1 hAr hNm => ?_
  have hcA : cA = eC E 1 := Option.some.inj (hNm.symm.trans (C1.2.2.2.2.2.2.1.2 1 (eC E 1, .long) rfl).2)
  subst hcA
  have e9 : ∀ r i, A r i → (if r = 92 then 0 else a r i) = a r i := fun r i z => if_neg (fun q => hA92 i (by rw [← q]; exact z))
  have h' := (h.grow o1).set92 hA92 hP
  have k0 := h'.add (r := 90) (i := 0) (q := H.size) (N := fun _ => True) (f := fun _ => .long 0) (by decide) hA (fun r' i' z q => by
    have q' : (if r' = 92 then 0 else a r' i') = H.size := q
    rw [e9 r' i' z] at q'
    exact h.fresh z q') (ci_b C hS) (by
    unfold cellF
    rw [if_neg (by decide), upA_self]
    exact e1) (fun k _ => ⟨by
      show Value.long 0 = Value.long (dL (upA (fun r i => if r = 92 then 0 else a r i) 90 0 H.size 92 k))
      rw [upA_ne (fun z => absurd z.1 (by decide))]
      rfl, fun t j ht => by
      cases (show (none : Option (Nat × Nat)) = some (t, j) from ht)⟩)
  have k1 := kk _ H1 (fun r i z => by
    rw [upA_ne (fun q => hA (by rw [← q.1, ← q.2]; exact z))]
    exact e9 r i z) k0 (hS.grow (by omega) o1)
  rw [upA_self] at k1
  exact k1
end R11
