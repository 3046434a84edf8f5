def xcl : Nat → String
  | 1 => "java/lang/IllegalArgumentException"
  | 2 => "java/util/NoSuchElementException"
  | _ => "java/lang/IndexOutOfBoundsException"
def QX (E : EV) (a : Nat → Nat → Nat) (k : Nat) (rv : Option Value) (σ' : HS) : Array Value → State → Outcome → State → Prop := fun x st o t => k = 0 ∧ QW E a rv σ' x st o t
def XW (E : EV) (a : Nat → Nat → Nat) (k : Nat) (σ' : HS) : String → State → State → Prop := fun cls st t => k ≠ 0 ∧ cls = xcl k ∧ Rel E a σ' t.heap ∧ va_F (AE E) st t
/-- the contract of a method that returns (k = 0) or throws -/
def CtX (l : Launch) (E : EV) (y : MethodName) (b : ByteArray) (mL : Nat) (ret : Option FieldType) (fr lo mc ms : Nat) (a : Nat → Nat → Nat) (σ : HS) (av : List Value) (k : Nat) (rv : Option Value) (σ' : HS) : Prop :=
  vx_Met l y (Cond.code y b mL ret :: GW) { frames := fr, cells := mc, slots := ms, locals := lo } (va_Pc av (PW E a σ)) (QX E a k rv σ') (XW E a k σ') mc ms (AE E)
theorem CtX.start {l : Launch} {E : EV} {y : MethodName} {b : ByteArray} {mL : Nat} {ret : Option FieldType} {fr lo mc ms : Nat} {a : Nat → Nat → Nat} {σ : HS} {av : List Value} {k : Nat} {rv : Option Value} {σ' : HS} (hy : plainName y.cls = true) (hn : (lg_sl av).length ≤ mL)
    (body : ∀ (p : Program) (e : Env) (s : State) (m : MethodId) (args : Array Value) (below : List Frame) (meth : Method) (c : Code) (ls : Array Slot), (∀ x ∈ c.exceptionTable.toList, False) → Cx E p s m args meth c b mL y.cls → meth.sig.returnType = ret → Rel E a σ s.heap → va_S (AE E) s.heap s.heap [] → lv_has ls mL (lv_args 0 av) →
      W p l e { frames := fr, cells := mc, slots := ms, locals := lo } s m args below meth c s.heap [] 0 0 (vx_MQ below (QX E a k rv σ') (XW E a k σ') args s mc ms (AE E)) (F0 m 0 ls [])) : CtX l E y b mL ret fr lo mc ms a σ av k rv σ' := by
  refine vx_ofW (cc := b) (maxL := mL) (ret := ret) hy rfl ?_
  intro p e s m args below meth c s₁ B hml hT hv
  obtain ⟨rfl, hR, hK, hKS, hsz⟩ := hv
  have hts := atoms_spec (ws := Cond.code y b mL ret :: GW) B.pre
  have C : Cx E p s m av.toArray meth c b mL y.cls := ⟨B.exec, B.bytes, hml, findClass_of_methodNamed B.named, fun w h => hts w (List.mem_cons_of_mem _ h), B.notSynchronized, hK, hKS, hsz⟩
  have hl := lv_entry av (n := mL) hn
  rw [lg_entry_eq]
  generalize (lg_sl av ++ List.replicate (mL - (lg_sl av).length) Slot.unset).toArray = ls at hl ⊢
  exact body p e s m _ below meth c ls hT C B.returns hR va_S.rf hl
theorem Rel.mono {E : EV} {a : Nat → Nat → Nat} {σ : HS} {H H1 : Heap} (h : Rel E a σ H) (hq : ∀ q : Nat, q < H.size → H1[q]? = H[q]?) : Rel E a σ H1 := by
  refine ⟨fun r i hl => ?_, h.2⟩
  have h0 := h.1 r i hl
  refine h0.kept (hq _ ?_)
  unfold cellOK at h0
  by_cases hr : r < 10
  · rw [if_pos hr] at h0
    obtain ⟨cell, q1, -⟩ := h0
    exact (Array.getElem?_eq_some_iff.mp q1).1
  · rw [if_neg hr] at h0
    exact (Array.getElem?_eq_some_iff.mp h0).1
theorem xg_1 : ∀ w ∈ (vx_at0 RX8 369 "java/lang/IllegalArgumentException" ["java/lang/RuntimeException", "java/lang/Exception"]).filter (fun w => !goodWord w), w ∈ ngL := by decide +kernel
theorem xk_1 : Cond.classLink RX8 367 "java/lang/IllegalArgumentException" ∈ GW := gw_t 613 (by decide +kernel) (by decide +kernel)
theorem xi_1 : Cond.initialized "java/lang/IllegalArgumentException" ∈ GW := gw_t 14 (by decide +kernel) (by decide +kernel)
theorem xo_1 : ∀ w ∈ Cond.classLink RX8 367 "java/lang/IllegalArgumentException" :: Cond.initialized "java/lang/IllegalArgumentException" :: vx_at0 RX8 369 "java/lang/IllegalArgumentException" ["java/lang/RuntimeException", "java/lang/Exception"], vx_ot w = true := by decide +kernel
theorem xg_2 : ∀ w ∈ (vx_at0 RX8 372 "java/util/NoSuchElementException" ["java/lang/RuntimeException", "java/lang/Exception"]).filter (fun w => !goodWord w), w ∈ ngL := by decide +kernel
theorem xk_2 : Cond.classLink RX8 370 "java/util/NoSuchElementException" ∈ GW := gw_t 917 (by decide +kernel) (by decide +kernel)
theorem xi_2 : Cond.initialized "java/util/NoSuchElementException" ∈ GW := gw_t 20 (by decide +kernel) (by decide +kernel)
theorem xo_2 : ∀ w ∈ Cond.classLink RX8 370 "java/util/NoSuchElementException" :: Cond.initialized "java/util/NoSuchElementException" :: vx_at0 RX8 372 "java/util/NoSuchElementException" ["java/lang/RuntimeException", "java/lang/Exception"], vx_ot w = true := by decide +kernel
theorem xg_3 : ∀ w ∈ (vx_at0 RX8 375 "java/lang/IndexOutOfBoundsException" ["java/lang/RuntimeException", "java/lang/Exception"]).filter (fun w => !goodWord w), w ∈ ngL := by decide +kernel
theorem xk_3 : Cond.classLink RX8 373 "java/lang/IndexOutOfBoundsException" ∈ GW := gw_t 963 (by decide +kernel) (by decide +kernel)
theorem xi_3 : Cond.initialized "java/lang/IndexOutOfBoundsException" ∈ GW := gw_t 21 (by decide +kernel) (by decide +kernel)
theorem xo_3 : ∀ w ∈ Cond.classLink RX8 373 "java/lang/IndexOutOfBoundsException" :: Cond.initialized "java/lang/IndexOutOfBoundsException" :: vx_at0 RX8 375 "java/lang/IndexOutOfBoundsException" ["java/lang/RuntimeException", "java/lang/Exception"], vx_ot w = true := by decide +kernel
section R5
variable {p : Program} {l : Launch} {e : Env} {R : Room} {s : State} {m : MethodId} {args : Array Value} {below : List Frame} {meth : Method} {c : Code} {H : Heap} {locs : List Loc} {cells slots mc ms : Nat} {Q : State → Prop}
variable {cc : ByteArray} {pc nL : Nat} {ls : Array Slot} {rest : List Value} {E : EV} {a : Nat → Nat → Nat} {σ : HS} {own : String}
theorem x_ret {g : JFrame} {rv : Option Value} {XC : String → State → State → Prop} (k : W p l e R s m args below meth c H locs cells slots (MQ below (QW E a rv σ) args s mc ms (AE E)) g) : W p l e R s m args below meth c H locs cells slots (vx_MQ below (QX E a 0 rv σ) XC args s mc ms (AE E)) g := by
  intro T hT X
  obtain ⟨t, a1, o, b1, b2, b3, b4⟩ := k T hT X
  exact ⟨t, a1, o, b1, b2, Or.inl ⟨⟨rfl, b3⟩, b4⟩⟩
theorem x_back {k : Nat} {rv : Option Value} {σ' : HS} {st : List Value} {av : Array Value} {Qc : Array Value → State → Outcome → State → Prop} {mc0 ms0 : Nat} (C : Cx E p s m args meth c cc nL own) (hT0 : ∀ x ∈ c.exceptionTable.toList, False) (hr : vx_Run p l e R s m args below meth c H locs cells slots mc ms (F0 m pc ls st) rest (QX E a k rv σ' av) (XW E a k σ') (AE E)) (hS : va_S (AE E) s.heap H locs) (hm : cells + mc ≤ mc0 ∧ slots + ms ≤ ms0)
    (kx : k ≠ 0 → ∀ t : State, vx_MQ below Qc (XW E a k σ') args s mc0 ms0 (AE E) t → Q t)
    (kk : k = 0 → ∀ (H1 : Heap) (locs1 : List Loc), Rel E a σ' H1 → va_S (AE E) s.heap H1 locs1 → W p l e R s m args below meth c H1 locs1 (cells + mc) (slots + ms) Q (F0 m (pc + 3) ls (rv.toList ++ rest))) : W p l e R s m args below meth c H locs cells slots Q (F0 m pc ls st) := by
  intro T hT X
  rcases hr T hT X with ⟨v, st₀, t, T', L, h0, X', hL, e1, e2, ⟨hk, hv, hRel, hF⟩, st1⟩ | ⟨q, st₀, t, T', L, E9, ce, h0, X', hL, e1, e2, ⟨hk, hcn, hRel, hF⟩, hce, hcv, hcl, st1⟩
  · cases hv
    obtain ⟨k1, k2, k3⟩ := vx_keep h0 e1 hS (fun _ _ h => h) (fun _ h => h) hL hF
    obtain ⟨t2, a1, b1⟩ := kk hk T'.heap (locs ++ L) (by rw [e1]; exact hRel) k3 T' rfl X'
    exact ⟨t2, st1 t2 a1, b1⟩
  · obtain ⟨k1, k2, k3⟩ := vx_keep h0 e1 hS (fun _ _ h => h) (fun _ h => h) hL hF
    have K : vx_W p l e R s m args below meth c T'.heap (locs ++ L) (cells + mc) (slots + ms) (vx_MQ below Qc (XW E a k σ') args s mc0 ms0 (AE E)) (F0 m pc ls rest) q :=
      vx_out (fun x hx => (hT0 x hx).elim) C.2.2.2.2.2.1 (by rw [e1]; exact hce) hcv hcl (fun t9 h9 _ => ⟨hk, hcn, by rw [h9, e1]; exact hRel, k3.F h9⟩) k3.2.2 hm.1 hm.2
    obtain ⟨t2, a1, b1⟩ := K T' rfl X'
    exact ⟨t2, st1.trans a1, kx hk _ b1⟩
theorem r_callXV {y : MethodName} {b' : ByteArray} {mL' fr lo r i index n k : Nat} {ret' : Option FieldType} {As : List Value} {rv : Option Value} {σ' : HS} {st : List Value} {Qc : Array Value → State → Outcome → State → Prop} {mc0 ms0 : Nat} (C : Cx E p s m args meth c cc nL own) (hT0 : ∀ x ∈ c.exceptionTable.toList, False) (hM : CtX l E y b' mL' ret' fr lo mc ms a σ (.ref (a r i) :: As) k rv σ') (hR : Rel E a σ H) (hS : va_S (AE E) s.heap H locs) (hi : lvS σ r i) (hr : r < 10) (hw : Cond.methodLink own index y ∈ GW) (hy : MW y (RRf r) b' mL' ret' n) (hn : As.length = n)
    (hf : fr + 1 ≤ R.frames ∧ 8 + (mL' + 11) + lo ≤ R.locals ∧ cells + mc ≤ R.cells ∧ slots + ms ≤ R.slots) (hm : cells + mc ≤ mc0 ∧ slots + ms ≤ ms0) (hl : ls.size = nL) (hst : st = As.reverse ++ .ref (a r i) :: rest) (hq : (rest.map fun v => v.category).sum ≤ 8) (hdg : decode cc pc = .ok (.invokevirtual index, 3))
    (kx : k ≠ 0 → ∀ t : State, vx_MQ below Qc (XW E a k σ') args s mc0 ms0 (AE E) t → Q t)
    (kk : k = 0 → ∀ (H1 : Heap) (locs1 : List Loc), Rel E a σ' H1 → va_S (AE E) s.heap H1 locs1 → W p l e R s m args below meth c H1 locs1 (cells + mc) (slots + ms) Q (F0 m (pc + 3) ls (rv.toList ++ rest))) : W p l e R s m args below meth c H locs cells slots Q (F0 m pc ls st) := by
  refine x_back C hT0 (vx_runV (As := As) (rest := rest) (Ts := GW) (own := own) (C := RRf r) (b := a r i) (nL := nL) (n := n) (g := F0 m pc ls st) ⟨C.1, C.2.1, C.2.2.1, C.2.2.2.1, C.2.2.2.2.1⟩ hM (cwV n C.2.2.2.2.1 (gw_goodIn ?_) rfl rfl rfl hy.1 ⟨hf.1, hf.2.1⟩) ⟨PW.blind, r_recv C hR hi hr, fun U hU hW => ⟨rfl, pw_at C hR hS hU hW⟩⟩ rfl hn hl hst (lv_room hq) hdg hf.2.2) hS hm kx kk
  intro w hw'
  unfold wsV at hw'
  simp only [List.cons_append, List.nil_append, List.mem_cons] at hw'
  rcases hw' with h | h | h | h | h | h
  · rw [h]; exact hw
  · rw [h]; exact hy.2.1
  · rw [h]; exact hy.2.2.1
  · rw [h]; exact hy.2.2.2.1
  · rw [h]; exact hy.2.2.2.2
  · exact h
theorem r_callXS {y : MethodName} {b' : ByteArray} {mL' fr lo index n k : Nat} {ret' : Option FieldType} {As : List Value} {rv : Option Value} {σ' : HS} {st : List Value} {Qc : Array Value → State → Outcome → State → Prop} {mc0 ms0 : Nat} (C : Cx E p s m args meth c cc nL own) (hT0 : ∀ x ∈ c.exceptionTable.toList, False) (hM : CtX l E y b' mL' ret' fr lo mc ms a σ As k rv σ') (hR : Rel E a σ H) (hS : va_S (AE E) s.heap H locs) (hw : Cond.methodLink own index y ∈ GW) (hy : MS y b' mL' ret' n) (hn : As.length = n)
    (hf : fr + 1 ≤ R.frames ∧ 8 + (mL' + 11) + lo ≤ R.locals ∧ cells + mc ≤ R.cells ∧ slots + ms ≤ R.slots) (hm : cells + mc ≤ mc0 ∧ slots + ms ≤ ms0) (hl : ls.size = nL) (hst : st = As.reverse ++ rest) (hq : (rest.map fun v => v.category).sum ≤ 8) (hdg : decode cc pc = .ok (.invokestatic index, 3))
    (kx : k ≠ 0 → ∀ t : State, vx_MQ below Qc (XW E a k σ') args s mc0 ms0 (AE E) t → Q t)
    (kk : k = 0 → ∀ (H1 : Heap) (locs1 : List Loc), Rel E a σ' H1 → va_S (AE E) s.heap H1 locs1 → W p l e R s m args below meth c H1 locs1 (cells + mc) (slots + ms) Q (F0 m (pc + 3) ls (rv.toList ++ rest))) : W p l e R s m args below meth c H locs cells slots Q (F0 m pc ls st) := by
  refine x_back C hT0 (vx_runS (As := As) (rest := rest) (Ts := GW) (own := own) (nL := nL) (n := n) (g := F0 m pc ls st) ⟨C.1, C.2.1, C.2.2.1, C.2.2.2.1, C.2.2.2.2.1⟩ hM ⟨callB_of n C.2.2.2.2.1 (gw_goodIn ?_) rfl rfl rfl (C.2.2.2.2.1 _ hy.2.2.1) (C.2.2.2.2.1 _ hw) hy.1 ⟨hf.1, hf.2.1⟩, C.2.2.2.2.1 _ hy.2.1⟩ ⟨PW.blind, fun U hU hW => ⟨rfl, pw_at C hR hS hU hW⟩⟩ rfl hn hl hst (lv_room hq) hdg hf.2.2) hS hm kx kk
  intro w hw'
  rcases List.mem_cons.mp hw' with h | h
  · rw [h]; exact hy.2.2.2
  · exact h
theorem r_throw1 {Qc : Array Value → State → Outcome → State → Prop} (hfl : l.stackTraces = false) (C : Cx E p s m args meth c cc nL RX8) (hT0 : ∀ x ∈ c.exceptionTable.toList, False) (hR : Rel E a σ H) (hS : va_S (AE E) s.heap H locs) (hl : ls.size = nL)
    (d0 : decode cc pc = .ok (.new 367, 3)) (d3 : decode cc (pc + 3) = .ok (.dup, 1)) (d4 : decode cc (pc + 4) = .ok (.invokespecial 369, 3)) (d7 : decode cc (pc + 7) = .ok (.athrow, 1))
    (hf : 5 < R.frames) (hlo : (rest.map fun v => v.category).sum + 81 ≤ R.locals) (hc : cells + 1 ≤ R.cells) (hs : slots + 6 ≤ R.slots) (hmc : cells + 1 ≤ mc) (hms : slots + 6 ≤ ms) : W p l e R s m args below meth c H locs cells slots (vx_MQ below Qc (XW E a 1 σ) args s mc ms (AE E)) (F0 m pc ls rest) := by
  refine vx_throw0 C.1 C.2.1 hfl (own := RX8) (cls := "java/lang/IllegalArgumentException") (names := ["java/lang/RuntimeException", "java/lang/Exception"]) (A := AE E) C.2.2.2.1 (by decide) (by decide) (C.2.2.2.2.1 _ xk_1) (C.2.2.2.2.1 _ xi_1) (vx_hat (B := ngL) (fun w hw => C.2.2.2.2.1 w (gw_in (wsL_law__x0 w hw) (List.mem_filter.mp hw).2)) xg_1 (fun w hw => va_Nw.use (ngL_ot w hw) (C.2.2.2.2.2.2.2.1.2.2.2.2.2.2.1 w hw))) xo_1 C.2.2.2.2.2.2.2.1.2.2.2.1 C.2.2.2.2.2.2.2.1.2.2.2.2.1 hS (hl.trans C.2.2.1.symm) d0 d3 d4 d7 (fun x hx => (hT0 x hx).elim) hf hlo hc hs C.2.2.2.2.2.1 (fun t _ hz hk => ⟨by decide, rfl, hR.mono hk, ⟨Nat.le_trans hS.1 hz, fun q h1 h2 => ?_⟩⟩) hS.2.2 hmc hms
  rw [hk q (Nat.lt_of_lt_of_le h1 hS.1)]
  exact hS.2.1 q h1 h2
theorem r_throw2 {Qc : Array Value → State → Outcome → State → Prop} (hfl : l.stackTraces = false) (C : Cx E p s m args meth c cc nL RX8) (hT0 : ∀ x ∈ c.exceptionTable.toList, False) (hR : Rel E a σ H) (hS : va_S (AE E) s.heap H locs) (hl : ls.size = nL)
    (d0 : decode cc pc = .ok (.new 370, 3)) (d3 : decode cc (pc + 3) = .ok (.dup, 1)) (d4 : decode cc (pc + 4) = .ok (.invokespecial 372, 3)) (d7 : decode cc (pc + 7) = .ok (.athrow, 1))
    (hf : 5 < R.frames) (hlo : (rest.map fun v => v.category).sum + 81 ≤ R.locals) (hc : cells + 1 ≤ R.cells) (hs : slots + 6 ≤ R.slots) (hmc : cells + 1 ≤ mc) (hms : slots + 6 ≤ ms) : W p l e R s m args below meth c H locs cells slots (vx_MQ below Qc (XW E a 2 σ) args s mc ms (AE E)) (F0 m pc ls rest) := by
  refine vx_throw0 C.1 C.2.1 hfl (own := RX8) (cls := "java/util/NoSuchElementException") (names := ["java/lang/RuntimeException", "java/lang/Exception"]) (A := AE E) C.2.2.2.1 (by decide) (by decide) (C.2.2.2.2.1 _ xk_2) (C.2.2.2.2.1 _ xi_2) (vx_hat (B := ngL) (fun w hw => C.2.2.2.2.1 w (gw_in (wsL_law__x1 w hw) (List.mem_filter.mp hw).2)) xg_2 (fun w hw => va_Nw.use (ngL_ot w hw) (C.2.2.2.2.2.2.2.1.2.2.2.2.2.2.1 w hw))) xo_2 C.2.2.2.2.2.2.2.1.2.2.2.1 C.2.2.2.2.2.2.2.1.2.2.2.2.1 hS (hl.trans C.2.2.1.symm) d0 d3 d4 d7 (fun x hx => (hT0 x hx).elim) hf hlo hc hs C.2.2.2.2.2.1 (fun t _ hz hk => ⟨by decide, rfl, hR.mono hk, ⟨Nat.le_trans hS.1 hz, fun q h1 h2 => ?_⟩⟩) hS.2.2 hmc hms
  rw [hk q (Nat.lt_of_lt_of_le h1 hS.1)]
  exact hS.2.1 q h1 h2
theorem r_throw3 {Qc : Array Value → State → Outcome → State → Prop} (hfl : l.stackTraces = false) (C : Cx E p s m args meth c cc nL RX8) (hT0 : ∀ x ∈ c.exceptionTable.toList, False) (hR : Rel E a σ H) (hS : va_S (AE E) s.heap H locs) (hl : ls.size = nL)
    (d0 : decode cc pc = .ok (.new 373, 3)) (d3 : decode cc (pc + 3) = .ok (.dup, 1)) (d4 : decode cc (pc + 4) = .ok (.invokespecial 375, 3)) (d7 : decode cc (pc + 7) = .ok (.athrow, 1))
    (hf : 5 < R.frames) (hlo : (rest.map fun v => v.category).sum + 81 ≤ R.locals) (hc : cells + 1 ≤ R.cells) (hs : slots + 6 ≤ R.slots) (hmc : cells + 1 ≤ mc) (hms : slots + 6 ≤ ms) : W p l e R s m args below meth c H locs cells slots (vx_MQ below Qc (XW E a 3 σ) args s mc ms (AE E)) (F0 m pc ls rest) := by
  refine vx_throw0 C.1 C.2.1 hfl (own := RX8) (cls := "java/lang/IndexOutOfBoundsException") (names := ["java/lang/RuntimeException", "java/lang/Exception"]) (A := AE E) C.2.2.2.1 (by decide) (by decide) (C.2.2.2.2.1 _ xk_3) (C.2.2.2.2.1 _ xi_3) (vx_hat (B := ngL) (fun w hw => C.2.2.2.2.1 w (gw_in (wsL_law__x2 w hw) (List.mem_filter.mp hw).2)) xg_3 (fun w hw => va_Nw.use (ngL_ot w hw) (C.2.2.2.2.2.2.2.1.2.2.2.2.2.2.1 w hw))) xo_3 C.2.2.2.2.2.2.2.1.2.2.2.1 C.2.2.2.2.2.2.2.1.2.2.2.2.1 hS (hl.trans C.2.2.1.symm) d0 d3 d4 d7 (fun x hx => (hT0 x hx).elim) hf hlo hc hs C.2.2.2.2.2.1 (fun t _ hz hk => ⟨by decide, rfl, hR.mono hk, ⟨Nat.le_trans hS.1 hz, fun q h1 h2 => ?_⟩⟩) hS.2.2 hmc hms
  rw [hk q (Nat.lt_of_lt_of_le h1 hS.1)]
  exact hS.2.1 q h1 h2
end R5
