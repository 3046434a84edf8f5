theorem ac_nat : Cond.native arraycopyName ∈ GW := gw_t 589 (by decide +kernel) (by decide +kernel)
theorem ac_st : Cond.static arraycopyName ∈ GW := gw_t 588 (by decide +kernel) (by decide +kernel)
theorem ac_ini : Cond.initialized "java/lang/System" ∈ GW := gw_t 22 (by decide +kernel) (by decide +kernel)
theorem arrV_ext {c : ClassId} {n : Nat} {f g : Nat → Value} (h : ∀ k, k < n → f k = g k) : arrV c n f = arrV c n g := by
  unfold arrV
  congr 1
  congr 1
  funext j
  exact h j.val j.isLt
theorem slot_wA_ne {a : Nat → Nat → Nat} {σ : HS} {r i r' i' : Nat} {f : Nat → Int32} (h : ¬ (r' = r ∧ i' = i)) : slot a (wA σ r i f) r' i' = slot a σ r' i' := by
  funext j
  have e1 : gI (wA σ r i f) r' i' j = gI σ r' i' j := by
    show (if r' = r ∧ i' = i then f j else σ.1 r' i' j) = σ.1 r' i' j
    rw [if_neg h]
  show (if r' < 10 then (match fcode r' j with | 0 => Value.int (gI (wA σ r i f) r' i' j) | t + 1 => .ref (a t (ridx σ r' i' j))) else _) = (if r' < 10 then _ else _)
  rw [e1]
  rfl
section R4
variable {p : Program} {l : Launch} {e : Env} {R : Room} {s : State} {m : MethodId} {args : Array Value} {below : List Frame} {meth : Method} {c : Code} {H : Heap} {locs : List Loc} {cells slots mc ms : Nat} {Q : State → Prop}
variable {cc : ByteArray} {pc nL : Nat} {ls : Array Slot} {rest : List Value} {E : EV} {a : Nat → Nat → Nat} {σ : HS} {own : String}
theorem r_copy {index n : Nat} {nn : Int32} (C : Cx E p s m args meth c cc nL own) (hR : Rel E a σ H) (hS : va_S (AE E) s.heap H locs) (r j i : Nat) (hj : lvS σ r j) (hi : lvS σ r i) (hr : ¬ r < 10) (ha : akind r = 0) (hs : ∀ (σ : HS) (i k : Nat), slot a σ r i k = .int (gI σ r i k)) (hl : ∀ i, lenS σ r i = n) (hn : ¬ nn < 0 ∧ nn.toNatClampNeg = n) (hw : Cond.methodLink own index arraycopyName ∈ GW) (hls : ls.size = nL) (hf : 1 ≤ R.frames) (hlo : (rest.map fun v => v.category).sum + (nativeFrameWords "java/lang/System" "arraycopy" 5 + 11) ≤ R.locals) (hdg : decode cc pc = .ok (.invokestatic index, 3))
    (kk : ∀ (H1 : Heap) (locs1 : List Loc), Rel E a (cpA σ r j i) H1 → va_S (AE E) s.heap H1 locs1 → W p l e R s m args below meth c H1 locs1 cells slots Q (F0 m (pc + 3) ls rest)) : W p l e R s m args below meth c H locs cells slots Q (F0 m pc ls (.int nn :: .int 0 :: .ref (a r i) :: .int 0 :: .ref (a r j) :: rest)) := by
  have fs : ∀ q, slot a σ r q = fun k => .int (gI σ r q k) := fun q => funext fun k => hs σ q k
  have h0 := hR.1 r j hj
  unfold cellOK at h0
  rw [if_neg hr, hl, ha, fs] at h0
  have h1 := hR.1 r i hi
  unfold cellOK at h1
  rw [if_neg hr, hl, ha, fs] at h1
  have hK0 := C.2.2.2.2.2.2.1.2 0 (eC E 0, .int) rfl
  have nnz : nn.toInt = (nn.toNatClampNeg : Int) := by
    have hz0 : (0 : Int) ≤ nn.toInt := by
      have := Int32.not_lt.mp hn.1
      simpa using Int32.le_iff_toInt_le.mp this
    show nn.toInt = ((nn.toInt.toNat : Nat) : Int)
    omega
  have nz0 : (0 : Int32).toInt = 0 := rfl
  intro T hT X
  obtain ⟨-, k0, hk0, cm0, hkk0⟩ := hK0.1 n (fun k => .int (gI σ r j k))
  obtain ⟨-, k1, hk1, cm1, hkk1⟩ := hK0.1 n (fun k => .int (gI σ r i k))
  obtain ⟨vm', X', step⟩ := X.arraycopy C.1 C.2.2.2.1 (C.2.2.2.2.1 _ hw) (C.2.2.2.2.1 _ ac_nat) (C.2.2.2.2.1 _ ac_st) (C.2.2.2.2.1 _ ac_ini) (src := a r j) (dst := a r i) (cs := arrV (eC E 0) n (fun k => .int (gI σ r j k))) (cd := arrV (eC E 0) n (fun k => .int (gI σ r i k))) (srcPos := 0) (destPos := 0) (n := nn) (by rw [hT]; exact h0) (by rw [hT]; exact h1)
    (fun _ h => by cases h) (fun _ h => by cases h) (fun h => by cases h) (fun h => by cases h) hk0 hk1 hkk0 hkk1 (by simp [refKind]) (by decide) (by decide) hn.1
    (by rw [nz0, nnz, arrV_size, hn.2]; omega)
    (by rw [nz0, nnz, arrV_size, hn.2]; omega)
    (fun vm₁ _ q hq => by
      have e : (arrV (eC E 0) n (fun k => .int (gI σ r j k))).slots.getD ((0 : Int32).toNatClampNeg + q) .null = .int (gI σ r j ((0 : Int32).toNatClampNeg + q)) := by
        have z : (0 : Int32).toNatClampNeg = 0 := rfl
        rw [Array.getD_eq_getD_getElem?, arrV_read _ _ (by rw [z, ← hn.2]; omega)]
        rfl
      refine ⟨?_, ?_⟩
      · rw [e]
        rfl
      · rw [e]
        exact trivial)
    (g := F0 m pc ls (.int nn :: .int 0 :: .ref (a r i) :: .int 0 :: .ref (a r j) :: rest)) rfl (by rw [C.2.2.1]; exact hls) (rest := rest) rfl (by rw [C.2.1]; exact hdg) hf (by show 2 * 0 + _ + _ ≤ _; omega)
  have e1 : copied (arrV (eC E 0) n (fun k => .int (gI σ r j k))) (arrV (eC E 0) n (fun k => .int (gI σ r i k))) 0 0 nn = arrV (eC E 0) n (fun k => .int (gI σ r j k)) := by
    have h := va_copied (fun z => Value.int z) (eC E 0) (eC E 0) (n0 := n) (n1 := n) (sp := (0 : Int32).toNatClampNeg) (dp := (0 : Int32).toNatClampNeg) (n := nn.toNatClampNeg) (gI σ r j) (gI σ r i) (by have z : (0 : Int32).toNatClampNeg = 0 := rfl; rw [z, hn.2]; omega)
    refine Eq.trans (show _ = _ from h) (arrV_ext fun k hk => ?_)
    have z : (0 : Int32).toNatClampNeg = 0 := rfl
    unfold va_cpy
    rw [z, hn.2, if_pos ⟨Nat.zero_le _, by omega⟩]
    simp
  rw [e1] at X' step
  have hlt : a r i < H.size := (Array.getElem?_eq_some_iff.mp h1).1
  have hheap : ((T.setVm vm').setCell (a r i) (arrV (eC E 0) n (fun k => .int (gI σ r j k)))).heap = H.setIfInBounds (a r i) (arrV (eC E 0) n (fun k => .int (gI σ r j k))) := by rw [← hT]; rfl
  have oq : ∀ q : Nat, q ≠ a r i → (H.setIfInBounds (a r i) (arrV (eC E 0) n (fun k => .int (gI σ r j k))))[q]? = H[q]? := fun q hq => by simp [Array.getElem?_setIfInBounds, Ne.symm hq]
  have hself : cellOK E a (cpA σ r j i) (H.setIfInBounds (a r i) (arrV (eC E 0) n (fun k => .int (gI σ r j k)))) r i := by
    unfold cellOK
    rw [if_neg hr, ha]
    show (H.setIfInBounds (a r i) _)[a r i]? = some (arrV (eC E 0) (lenS σ r i) (slot a (cpA σ r j i) r i))
    rw [hl]
    have e2 : slot a (cpA σ r j i) r i = fun k => .int (gI σ r j k) := by
      funext k
      rw [hs]
      show Value.int (if r = r ∧ i = i then gI σ r j k else σ.1 r i k) = _
      rw [if_pos ⟨rfl, rfl⟩]
    rw [e2]
    simp [Array.getElem?_setIfInBounds, hlt]
  obtain ⟨t, a1, b1⟩ := kk _ _ (hR.put (σ' := cpA σ r j i) rfl hi hself oq (fun r' i' h => slot_wA_ne h)) ⟨by simp; exact hS.1, fun q g1 g2 => by
      rw [oq q (fun e => g2 (by rw [e]; exact hR.2.2.1 r i hi))]
      exact hS.2.1 q g1 g2, fun q hq => by
      rcases List.mem_append.mp hq with h | h
      · exact hS.2.2 q h
      · obtain ⟨z, -, hz⟩ := List.mem_map.mp h
        rw [← hz]
        exact hR.2.2.1 r i hi⟩ _ hheap X'
  exact ⟨t, step t a1, b1⟩
end R4
