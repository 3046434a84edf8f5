theorem gw_goodIn {ws : List Cond} (h : ∀ w ∈ ws, w ∈ GW) : GoodIn GW ws := fun w hw => ⟨h w hw, good_of_word (List.mem_filter.mp (h w hw)).2⟩
/-- what a method's row of words says: an instance method of C -/
def MW (y : MethodName) (C : String) (b : ByteArray) (mL : Nat) (ret : Option FieldType) (n : Nat) : Prop := (y.cls = C ∧ y.cls ≠ "java/lang/invoke/MethodHandle" ∧ y.cls ≠ "java/lang/invoke/VarHandle" ∧ (parseMethodDescriptor y.desc).map (fun d => d.parameters.length) = some n) ∧ Cond.instanceMethod y ∈ GW ∧ Cond.selects C y y ∈ GW ∧ Cond.initialized C ∈ GW ∧ Cond.code y b mL ret ∈ GW
/-- a static one -/
def MS (y : MethodName) (b : ByteArray) (mL : Nat) (ret : Option FieldType) (n : Nat) : Prop := (y.cls ≠ "java/lang/invoke/MethodHandle" ∧ y.cls ≠ "java/lang/invoke/VarHandle" ∧ (parseMethodDescriptor y.desc).map (fun d => d.parameters.length) = some n) ∧ Cond.static y ∈ GW ∧ Cond.initialized y.cls ∈ GW ∧ Cond.code y b mL ret ∈ GW
theorem Ct.start {l : Launch} {E : EV} {y : MethodName} {b : ByteArray} {mL : Nat} {ret : Option FieldType} {fr lo mc ms : Nat} {a : Nat → Nat → Nat} {σ : HS} {av : List Value} {rv : Option Value} {σ' : HS} (hy : plainName y.cls = true) (hn : (lg_sl av).length ≤ mL)
    (body : ∀ (p : Program) (e : Env) (s : State) (m : MethodId) (args : Array Value) (below : List Frame) (meth : Method) (c : Code) (ls : Array Slot), Cx E p s m args meth c b mL y.cls → meth.sig.returnType = ret → Rel E a σ s.heap → va_S (AE E) s.heap s.heap [] → lv_has ls mL (lv_args 0 av) →
      W p l e { frames := fr, cells := mc, slots := ms, locals := lo } s m args below meth c s.heap [] 0 0 (MQ below (QW E a rv σ') args s mc ms (AE E)) (F0 m 0 ls [])) : Ct l E y b mL ret fr lo mc ms a σ av rv σ' := by
  refine Met.ofW (cc := b) (maxL := mL) (ret := ret) hy rfl ?_
  intro p e s m args below meth c s₁ B hml hv
  obtain ⟨rfl, hR, hK, hKS, hsz⟩ := hv
  have hts := atoms_spec (ws := Cond.code y b mL ret :: GW) B.pre
  have C : Cx E p s m av.toArray meth c b mL y.cls := ⟨B.exec, B.bytes, hml, findClass_of_methodNamed B.named, fun w h => hts w (List.mem_cons_of_mem _ h), B.notSynchronized, hK, hKS, hsz⟩
  have hl := lv_entry av (n := mL) hn
  rw [lg_entry_eq]
  generalize (lg_sl av ++ List.replicate (mL - (lg_sl av).length) Slot.unset).toArray = ls at hl ⊢
  exact body p e s m _ below meth c ls C B.returns hR va_S.rf hl
section R2
variable {p : Program} {l : Launch} {e : Env} {R : Room} {s : State} {m : MethodId} {args : Array Value} {below : List Frame} {meth : Method} {c : Code} {H : Heap} {locs : List Loc} {cells slots mc ms : Nat} {Q : State → Prop}
variable {cc : ByteArray} {pc nL : Nat} {ls : Array Slot} {rest : List Value} {E : EV} {a : Nat → Nat → Nat} {σ : HS} {own : String}
theorem e_iret {v : Int32} (C : Cx E p s m args meth c cc nL own) (hr : meth.sig.returnType = some .int) (hR : Rel E a σ H) (hS : va_S (AE E) s.heap H locs) (hc : cells ≤ mc) (hs : slots ≤ ms) (hdg : decode cc pc = .ok (.ireturn, 1)) : W p l e R s m args below meth c H locs cells slots (MQ below (QW E a (some (.int v)) σ) args s mc ms (AE E)) (F0 m pc ls [.int v]) := by
  refine W.widen (k := mc) (n := ms) hc hs ?_
  exact W.iret C.1 C.2.1 hr (fun t ht hW => ⟨rfl, by rw [ht]; exact hR, hS.F ht⟩) hS.2.2 hdg C.2.2.2.2.2.1
theorem e_zret {v : Int32} (C : Cx E p s m args meth c cc nL own) (hr : meth.sig.returnType = some .boolean) (hn : narrow .boolean (.int v) = .int v) (hR : Rel E a σ H) (hS : va_S (AE E) s.heap H locs) (hc : cells ≤ mc) (hs : slots ≤ ms) (hdg : decode cc pc = .ok (.ireturn, 1)) : W p l e R s m args below meth c H locs cells slots (MQ below (QW E a (some (.int v)) σ) args s mc ms (AE E)) (F0 m pc ls [.int v]) := by
  refine W.widen (k := mc) (n := ms) hc hs ?_
  exact W.zret C.1 C.2.1 hr hn (fun t ht hW => ⟨rfl, by rw [ht]; exact hR, hS.F ht⟩) hS.2.2 hdg C.2.2.2.2.2.1
theorem e_lret {v : Int64} (C : Cx E p s m args meth c cc nL own) (hr : meth.sig.returnType = some .long) (hR : Rel E a σ H) (hS : va_S (AE E) s.heap H locs) (hc : cells ≤ mc) (hs : slots ≤ ms) (hdg : decode cc pc = .ok (.lreturn, 1)) : W p l e R s m args below meth c H locs cells slots (MQ below (QW E a (some (.long v)) σ) args s mc ms (AE E)) (F0 m pc ls [.long v]) := by
  refine W.widen (k := mc) (n := ms) hc hs ?_
  exact W.lret C.1 C.2.1 hr (fun t ht hW => ⟨rfl, by rw [ht]; exact hR, hS.F ht⟩) hS.2.2 hdg C.2.2.2.2.2.1
theorem e_vret (C : Cx E p s m args meth c cc nL own) (hr : meth.sig.returnType = none) (hR : Rel E a σ H) (hS : va_S (AE E) s.heap H locs) (hc : cells ≤ mc) (hs : slots ≤ ms) (hdg : decode cc pc = .ok (.return_, 1)) : W p l e R s m args below meth c H locs cells slots (MQ below (QW E a none σ) args s mc ms (AE E)) (F0 m pc ls []) := by
  refine W.widen (k := mc) (n := ms) hc hs ?_
  exact W.vret C.1 C.2.1 hr (fun t ht hW => ⟨rfl, by rw [ht]; exact hR, hS.F ht⟩) hS.2.2 hdg C.2.2.2.2.2.1
theorem e_aret {q : Nat} {cn : String} (C : Cx E p s m args meth c cc nL own) (hr : meth.sig.returnType = some (.object cn)) (hR : Rel E a σ H) (hS : va_S (AE E) s.heap H locs) (hc : cells ≤ mc) (hs : slots ≤ ms) (hdg : decode cc pc = .ok (.areturn, 1)) : W p l e R s m args below meth c H locs cells slots (MQ below (QW E a (some (.ref q)) σ) args s mc ms (AE E)) (F0 m pc ls [.ref q]) := by
  refine W.widen (k := mc) (n := ms) hc hs ?_
  exact W.aret C.1 C.2.1 hr (Or.inl ⟨_, rfl⟩) (Or.inr ⟨_, rfl⟩) (fun t ht hW => ⟨rfl, by rw [ht]; exact hR, hS.F ht⟩) hS.2.2 hdg C.2.2.2.2.2.1
theorem pw_at (C : Cx E p s m args meth c cc nL own) (hR : Rel E a σ H) (hS : va_S (AE E) s.heap H locs) {U : State} (hU : U.heap = H) (hW : s.WarmedH U.vm) : PW E a σ U :=
  ⟨by rw [hU]; exact hR, va_K.moved hW.alike C.2.2.2.2.2.2.1, by rw [hU]; exact C.2.2.2.2.2.2.2.1.go hW hS.2.1, by rw [hU]; exact Nat.le_trans C.2.2.2.2.2.2.2.2 hS.1⟩
/-- behind a call that returned -/
theorem r_back {rv : Option Value} {σ' : HS} {st : List Value} {av : Array Value} (hr : va_Run p l e R s m args below meth c H locs cells slots mc ms (F0 m pc ls st) rest (QW E a rv σ' av) (AE E)) (hS : va_S (AE E) s.heap H locs)
    (kk : ∀ (H1 : Heap) (locs1 : List Loc), Rel E a σ' H1 → va_S (AE E) s.heap H1 locs1 → W p l e R s m args below meth c H1 locs1 (cells + mc) (slots + ms) Q (F0 m (pc + 3) ls (rv.toList ++ rest))) : W p l e R s m args below meth c H locs cells slots Q (F0 m pc ls st) := by
  intro T hT X
  obtain ⟨v, st₀, t, T', L, h0, X', hL, e1, e2, ⟨hv, hRel, hz, hk⟩, st1⟩ := hr T hT X
  cases hv
  rw [h0] at hz hk
  obtain ⟨t2, a1, b1⟩ := kk T'.heap (locs ++ L) (by rw [e1]; exact hRel)
    ⟨Nat.le_trans hS.1 (by rw [e1]; exact hz), fun q h1 h2 => by rw [e1, hk q (Nat.lt_of_lt_of_le h1 hS.1) h2]; exact hS.2.1 q h1 h2, fun q hq => by
      rcases List.mem_append.mp hq with h | h
      · exact hS.2.2 q h
      · exact hL q h⟩ T' rfl X'
  exact ⟨t2, st1 t2 a1, b1⟩
theorem r_callV {y : MethodName} {b' : ByteArray} {mL' fr lo r i index n : Nat} {ret' : Option FieldType} {As : List Value} {rv : Option Value} {σ' : HS} {st : List Value} (C : Cx E p s m args meth c cc nL own) (hM : Ct l E y b' mL' ret' fr lo mc ms a σ (.ref (a r i) :: As) rv σ') (hR : Rel E a σ H) (hS : va_S (AE E) s.heap H locs) (hi : lvS σ r i) (hr : r < 10) (hw : Cond.methodLink own index y ∈ GW) (hy : MW y (RRf r) b' mL' ret' n) (hn : As.length = n)
    (hf : fr + 1 ≤ R.frames ∧ 8 + (mL' + 11) + lo ≤ R.locals ∧ cells + mc ≤ R.cells ∧ slots + ms ≤ R.slots) (hl : ls.size = nL) (hst : st = As.reverse ++ .ref (a r i) :: rest) (hq : (rest.map fun v => v.category).sum ≤ 8) (hdg : decode cc pc = .ok (.invokevirtual index, 3))
    (kk : ∀ (H1 : Heap) (locs1 : List Loc), Rel E a σ' H1 → va_S (AE E) s.heap H1 locs1 → W p l e R s m args below meth c H1 locs1 (cells + mc) (slots + ms) Q (F0 m (pc + 3) ls (rv.toList ++ rest))) : W p l e R s m args below meth c H locs cells slots Q (F0 m pc ls st) := by
  refine r_back (va_runV (As := As) (rest := rest) (Ts := GW) (own := own) (C := RRf r) (b := a r i) (nL := nL) (n := n) (g := F0 m pc ls st) ⟨C.1, C.2.1, C.2.2.1, C.2.2.2.1, C.2.2.2.2.1⟩ hM (cwV n C.2.2.2.2.1 (gw_goodIn ?_) rfl rfl rfl hy.1 ⟨hf.1, hf.2.1⟩) ⟨PW.blind, r_recv C hR hi hr, fun U hU hW => ⟨rfl, pw_at C hR hS hU hW⟩⟩ rfl hn hl hst (lv_room hq) hdg hf.2.2) hS kk
  intro w hw'
  unfold wsV at hw'
  simp only [List.cons_append, List.nil_append, List.mem_cons] at hw'
  rcases hw' with h | h | h | h | h | h
  · rw [h]; exact hw
  · rw [h]; exact hy.2.1
  · rw [h]; exact hy.2.2.1
  · rw [h]; exact hy.2.2.2.1
  · rw [h]; exact hy.2.2.2.2
  · exact h
theorem r_callS {y : MethodName} {b' : ByteArray} {mL' fr lo index n : Nat} {ret' : Option FieldType} {As : List Value} {rv : Option Value} {σ' : HS} {st : List Value} (C : Cx E p s m args meth c cc nL own) (hM : Ct l E y b' mL' ret' fr lo mc ms a σ As rv σ') (hR : Rel E a σ H) (hS : va_S (AE E) s.heap H locs) (hw : Cond.methodLink own index y ∈ GW) (hy : MS y b' mL' ret' n) (hn : As.length = n)
    (hf : fr + 1 ≤ R.frames ∧ 8 + (mL' + 11) + lo ≤ R.locals ∧ cells + mc ≤ R.cells ∧ slots + ms ≤ R.slots) (hl : ls.size = nL) (hst : st = As.reverse ++ rest) (hq : (rest.map fun v => v.category).sum ≤ 8) (hdg : decode cc pc = .ok (.invokestatic index, 3))
    (kk : ∀ (H1 : Heap) (locs1 : List Loc), Rel E a σ' H1 → va_S (AE E) s.heap H1 locs1 → W p l e R s m args below meth c H1 locs1 (cells + mc) (slots + ms) Q (F0 m (pc + 3) ls (rv.toList ++ rest))) : W p l e R s m args below meth c H locs cells slots Q (F0 m pc ls st) := by
  refine r_back (va_runS (As := As) (rest := rest) (Ts := GW) (own := own) (nL := nL) (n := n) (g := F0 m pc ls st) ⟨C.1, C.2.1, C.2.2.1, C.2.2.2.1, C.2.2.2.2.1⟩ hM ⟨callB_of n C.2.2.2.2.1 (gw_goodIn ?_) rfl rfl rfl (C.2.2.2.2.1 _ hy.2.2.1) (C.2.2.2.2.1 _ hw) hy.1 ⟨hf.1, hf.2.1⟩, C.2.2.2.2.1 _ hy.2.1⟩ ⟨PW.blind, fun U hU hW => ⟨rfl, pw_at C hR hS hU hW⟩⟩ rfl hn hl hst (lv_room hq) hdg hf.2.2) hS kk
  intro w hw'
  rcases List.mem_cons.mp hw' with h | h
  · rw [h]; exact hy.2.2.2
  · exact h
end R2
