/-! ===== the law's helpers: a call of the class, caught ===== -/
def AL (a a' : Nat → Nat → Nat) : Prop := ∀ r i, r ≠ 42 → r ≠ 43 → r ≠ 91 → a' r i = a r i
theorem AL.rf {a : Nat → Nat → Nat} : AL a a := fun _ _ _ _ _ => rfl
def ALo (a a' : Nat → Nat → Nat) : Prop := ∀ r i, r ≠ 42 → r ≠ 43 → r ≠ 91 → r ≠ 92 → a' r i = a r i
theorem ALo.rf {a : Nat → Nat → Nat} : ALo a a := fun _ _ _ _ _ _ => rfl
def QWo (E : EV) (a0 : Nat → Nat → Nat) (z : Int32) (y : Int64) (σ' : HS) : Array Value → State → Outcome → State → Prop := fun _ st o t => o = .returned (some (.int z)) ∧ (∃ a', ALo a0 a' ∧ Rel E a' σ' t.heap ∧ (z = 0 → a' 92 0 = eL y)) ∧ va_F (AE E) st t
/-- a helper's contract: it answers z (which exception, 0: none); where it answers 0, the law's array holds y -/
def CtH (l : Launch) (E : EV) (y : MethodName) (b : ByteArray) (mL : Nat) (hh : List (Nat × Nat × Nat × Nat)) (fr lo mc ms : Nat) (a : Nat → Nat → Nat) (σ : HS) (av : List Value) (z : Int32) (v : Int64) (σ' : HS) : Prop :=
  Met l y (Cond.codeWith y b mL (some .int) hh :: GW) { frames := fr, cells := mc, slots := ms, locals := lo } (va_Pc av (PW E a σ)) (QWo E a z v σ') mc ms (AE E)
theorem CtH.start {l : Launch} {E : EV} {y : MethodName} {b : ByteArray} {mL : Nat} {hh : List (Nat × Nat × Nat × Nat)} {fr lo mc ms : Nat} {a : Nat → Nat → Nat} {σ : HS} {av : List Value} {z : Int32} {v : Int64} {σ' : HS} (hy : plainName y.cls = true) (hn : (lg_sl av).length ≤ mL)
    (body : ∀ (p : Program) (e : Env) (s : State) (m : MethodId) (args : Array Value) (below : List Frame) (meth : Method) (c : Code) (ls : Array Slot), Cx E p s m args meth c b mL y.cls → c.exceptionTable.toList = tableOf hh → meth.sig.returnType = some .int → Rel E a σ s.heap → va_S (AE E) s.heap s.heap [] → lv_has ls mL (lv_args 0 av) →
      W p l e { frames := fr, cells := mc, slots := ms, locals := lo } s m args below meth c s.heap [] 0 0 (MQ below (QWo E a z v σ') args s mc ms (AE E)) (F0 m 0 ls [])) : CtH l E y b mL hh fr lo mc ms a σ av z v σ' := by
  refine va_MetW (cc := b) (maxL := mL) (ret := some .int) (hh := hh) hy rfl ?_
  intro p e s m args below meth c s₁ B hml hv
  obtain ⟨rfl, hR, hK, hKS, hsz⟩ := hv
  have hts := atoms_spec (ws := Cond.codeWith y b mL (some .int) hh :: GW) B.pre
  have hT := vx_table (x := y) B (hts _ List.mem_cons_self)
  have C : Cx E p s m av.toArray meth c b mL y.cls := ⟨B.exec, B.bytes, hml, findClass_of_methodNamed B.named, fun w h => hts w (List.mem_cons_of_mem _ h), B.notSynchronized, hK, hKS, hsz⟩
  have hl := lv_entry av (n := mL) hn
  rw [lg_entry_eq]
  generalize (lg_sl av ++ List.replicate (mL - (lg_sl av).length) Slot.unset).toArray = ls at hl ⊢
  exact body p e s m _ below meth c ls C hT B.returns hR va_S.rf hl
theorem fc_93l : ∀ r, r < 10 → ∀ c ∈ ftabL.getD r [], c ≠ 93 := by decide
theorem fc_93 {r k : Nat} (h : r < 10) : fcode r k ≠ 93 := by
  rcases (getD_or : (ftabL.getD r []).getD k 0 = 0 ∨ _) with e | e
  · unfold fcode; rw [e]; decide
  · exact fc_93l r h _ e
theorem ac_94l : ∀ c ∈ acodeL, c ≠ 94 := by decide
theorem ac_94 {r : Nat} : acode r ≠ 94 := by
  rcases (getD_or : acodeL.getD r 0 = 0 ∨ _) with e | e
  · unfold acode; rw [e]; decide
  · exact ac_94l _ e
theorem slot_out {a : Nat → Nat → Nat} {σ : HS} {z r i : Nat} (h : r ≠ 90) : slot (upA a 92 0 z) σ r i = slot a σ r i := by
  funext j
  unfold slot
  by_cases hr : r < 10
  · rw [if_pos hr, if_pos hr]
    split
    · rfl
    · rename_i t ht
      have e : upA a 92 0 z t (ridx σ r i j) = a t (ridx σ r i j) := if_neg (fun z => by have := fc_93 (k := j) hr; omega)
      rw [e]
  · rw [if_neg hr, if_neg hr, if_neg h, if_neg h]
    split
    · rfl
    · rfl
    · rename_i t ht
      have e : upA a 92 0 z t (j + roff r) = a t (j + roff r) := if_neg (fun z => by have := ac_94 (r := r); omega)
      rw [e]
theorem lv92 {σ : HS} {r i : Nat} (h : lvS σ r i) : r ≠ 92 := by
  rintro rfl
  exact absurd (show i < 0 from h.1) (Nat.not_lt_zero _)
theorem Rel.out {E : EV} {a : Nat → Nat → Nat} {σ : HS} {H H1 : Heap} {x : Int64} (h : Rel E a σ H) (hn : H1[a 90 0]? = some (arrV (eC E 1) 1 (fun _ => .long x))) (ho : ∀ q, q ≠ a 90 0 → H1[q]? = H[q]?) : Rel E (upA a 92 0 (eL x)) σ H1 := by
  have hup : ∀ r i, lvS σ r i → upA a 92 0 (eL x) r i = a r i := fun r i hl => if_neg (fun z => lv92 hl z.1)
  refine ⟨fun r i hl => ?_, fun r i r' i' h1 h2 he => ?_, fun r i hl => ?_, h.2.2.2⟩
  · by_cases c : r = 90
    · subst c
      obtain rfl : i = 0 := by have e : cntS 90 = 1 := rfl; have := hl.1; omega
      unfold cellOK
      rw [if_neg (by decide), hup _ _ hl, hn]
      refine congrArg some (arrV_ext fun j hj => ?_)
      obtain rfl : j = 0 := by omega
      show Value.long x = Value.long (dL (upA a 92 0 (eL x) 92 0))
      rw [show upA a 92 0 (eL x) 92 0 = eL x from if_pos ⟨rfl, rfl⟩, dL_eL]
    · have h0 := (h.1 r i hl).kept (ho _ fun z => c (h.2.1 r i 90 0 hl (lv0 (by decide) (by decide)) z).1)
      unfold cellOK at h0 ⊢
      rw [slot_out c, hup _ _ hl]
      exact h0
  · rw [hup _ _ h1, hup _ _ h2] at he
    exact h.2.1 _ _ _ _ h1 h2 he
  · rw [hup _ _ hl]; exact h.2.2.1 _ _ hl
section R10
variable {p : Program} {l : Launch} {e : Env} {R : Room} {s : State} {m : MethodId} {args : Array Value} {below : List Frame} {meth : Method} {c : Code} {H : Heap} {locs : List Loc} {cells slots mc ms : Nat} {Q : State → Prop}
variable {cc : ByteArray} {pc nL : Nat} {ls : Array Slot} {rest : List Value} {E : EV} {a a0 : Nat → Nat → Nat} {σ : HS} {own : String}
theorem e_iretO {z : Int32} {v : Int64} (hAL : ALo a0 a) (hz : z = 0 → a 92 0 = eL v) (C : Cx E p s m args meth c cc nL own) (hr : meth.sig.returnType = some .int) (hR : Rel E a σ H) (hS : va_S (AE E) s.heap H locs) (hc : cells ≤ mc) (hs : slots ≤ ms) (hdg : decode cc pc = .ok (.ireturn, 1)) : W p l e R s m args below meth c H locs cells slots (MQ below (QWo E a0 z v σ) args s mc ms (AE E)) (F0 m pc ls [.int z]) := by
  refine W.widen (k := mc) (n := ms) hc hs ?_
  exact W.iret C.1 C.2.1 hr (fun t ht hW => ⟨rfl, ⟨a, hAL, by rw [ht]; exact hR, hz⟩, hS.F ht⟩) hS.2.2 hdg C.2.2.2.2.2.1
theorem r_outst {x : Int64} (C : Cx E p s m args meth c cc nL own) (hR : Rel E a σ H) (hS : va_S (AE E) s.heap H locs) (hdg : decode cc pc = .ok (.lastore, 1))
    (kk : ∀ (H1 : Heap) (locs1 : List Loc), Rel E (upA a 92 0 (eL x)) σ H1 → va_S (AE E) s.heap H1 locs1 → W p l e R s m args below meth c H1 locs1 cells slots Q (F0 m (pc + 1) ls rest)) : W p l e R s m args below meth c H locs cells slots Q (F0 m pc ls (.long x :: .int 0 :: .ref (a 90 0) :: rest)) := by
  have h0 := hR.1 90 0 (lv0 (by decide) (by decide))
  unfold cellOK at h0
  rw [if_neg (by decide)] at h0
  refine W.last C.1 C.2.1 h0 ((C.2.2.2.2.2.2.1.2 1 (eC E 1, .long) rfl).1 _ (slot a σ 90 0)) (fun q => by cases q) (by show ¬ ((0 : Int32) < 0 ∨ (arrV _ _ _).slots.size ≤ _); rw [arrV_size]; show ¬ ((0 : Int32) < 0 ∨ 1 ≤ (0 : Int32).toNatClampNeg); decide) rfl rfl hdg fun H1 e1 e2 e3 => ?_
  refine kk H1 _ (hR.out ?_ e3) (hS.put e2 e3 (hR.2.2.1 90 0 (lv0 (by decide) (by decide))))
  rw [e1, arrV_store]
  refine congrArg some (arrV_ext fun j hj => ?_)
  obtain rfl : j = 0 := by have e : lenS σ 90 0 = 1 := rfl; omega
  rfl
theorem r_outld (C : Cx E p s m args meth c cc nL own) (hR : Rel E a σ H) (hdg : decode cc pc = .ok (.laload, 1))
    (kk : W p l e R s m args below meth c H locs cells slots Q (F0 m (pc + 1) ls (.long (dL (a 92 0)) :: rest))) : W p l e R s m args below meth c H locs cells slots Q (F0 m pc ls (.int 0 :: .ref (a 90 0) :: rest)) := by
  have h0 := hR.1 90 0 (lv0 (by decide) (by decide))
  unfold cellOK at h0
  rw [if_neg (by decide)] at h0
  refine W.lald (v := .long (dL (a 92 0))) C.1 C.2.1 h0 ((C.2.2.2.2.2.2.1.2 1 (eC E 1, .long) rfl).1 _ (slot a σ 90 0)) (fun q => by cases q) (by show ¬ ((0 : Int32) < 0 ∨ (arrV _ _ _).slots.size ≤ _); rw [arrV_size]; show ¬ ((0 : Int32) < 0 ∨ 1 ≤ (0 : Int32).toNatClampNeg); decide) ?_ rfl rfl hdg kk
  show (arrV _ _ _).slots[_]? = _
  rw [arrV_read _ _ (show (0 : Int32).toNatClampNeg < lenS σ 90 0 from (show (0 : Int32).toNatClampNeg < 1 by decide))]
  rfl
theorem l_back {k : Nat} {rv : Option Value} {σ' : HS} {st : List Value} {Qc : State → Outcome → State → Prop} {XC : String → State → State → Prop} (hQ : ∀ st o t, Qc st o t → k = 0 ∧ o = .returned rv ∧ (∃ a', AL a a' ∧ Rel E a' σ' t.heap) ∧ va_F (AE E) st t) (hX : ∀ cls st t, XC cls st t → k ≠ 0 ∧ cls = xcl k ∧ (∃ a', AL a a' ∧ Rel E a' σ' t.heap) ∧ va_F (AE E) st t) (hr : vx_Run p l e R s m args below meth c H locs cells slots mc ms (F0 m pc ls st) rest Qc XC (AE E)) (hS : va_S (AE E) s.heap H locs)
    (kx : k ≠ 0 → ∀ (a' : Nat → Nat → Nat) (H1 : Heap) (locs1 : List Loc) (q : Addr) (ce : Cell), AL a a' → Rel E a' σ' H1 → va_S (AE E) s.heap H1 locs1 → H1[q]? = some ce → ce.vm = .none → s.vm.findClass (xcl k) = some ce.cls → vx_W p l e R s m args below meth c H1 locs1 (cells + mc) (slots + ms) Q (F0 m pc ls rest) q)
    (kk : k = 0 → ∀ (a' : Nat → Nat → Nat) (H1 : Heap) (locs1 : List Loc), AL a a' → Rel E a' σ' H1 → va_S (AE E) s.heap H1 locs1 → W p l e R s m args below meth c H1 locs1 (cells + mc) (slots + ms) Q (F0 m (pc + 3) ls (rv.toList ++ rest))) : W p l e R s m args below meth c H locs cells slots Q (F0 m pc ls st) := by
  intro T hT X
  rcases hr T hT X with ⟨v, st₀, t, T', L, h0, X', hL, e1, e2, hq, st1⟩ | ⟨q, st₀, t, T', L, E9, ce, h0, X', hL, e1, e2, hx, hce, hcv, hcl, st1⟩
  · obtain ⟨hk, hv, ⟨a', hAL, hRel⟩, hF⟩ := hQ _ _ _ hq
    cases hv
    obtain ⟨k1, k2, k3⟩ := vx_keep h0 e1 hS (fun _ _ h => h) (fun _ h => h) hL hF
    obtain ⟨t2, a1, b1⟩ := kk hk a' T'.heap (locs ++ L) hAL (by rw [e1]; exact hRel) k3 T' rfl X'
    exact ⟨t2, st1 t2 a1, b1⟩
  · obtain ⟨hk, hcn, ⟨a', hAL, hRel⟩, hF⟩ := hX _ _ _ hx
    subst hcn
    obtain ⟨k1, k2, k3⟩ := vx_keep h0 e1 hS (fun _ _ h => h) (fun _ h => h) hL hF
    obtain ⟨t2, a1, b1⟩ := kx hk a' T'.heap (locs ++ L) q ce hAL (by rw [e1]; exact hRel) k3 (by rw [e1]; exact hce) hcv hcl T' rfl X'
    exact ⟨t2, st1.trans a1, b1⟩
theorem l_callX {y : MethodName} {b' : ByteArray} {mL' fr lo index n k : Nat} {ret' : Option FieldType} {As : List Value} {rv : Option Value} {σ' : HS} {st : List Value} (C : Cx E p s m args meth c cc nL own) (hM : CtX l E y b' mL' ret' fr lo mc ms a σ (.ref (a 8 0) :: As) k rv σ') (hR : Rel E a σ H) (hS : va_S (AE E) s.heap H locs) (hw : Cond.methodLink own index y ∈ GW) (hy : MW y (RRf 8) b' mL' ret' n) (hn : As.length = n)
    (hf : fr + 1 ≤ R.frames ∧ 8 + (mL' + 11) + lo ≤ R.locals ∧ cells + mc ≤ R.cells ∧ slots + ms ≤ R.slots) (hl : ls.size = nL) (hst : st = As.reverse ++ .ref (a 8 0) :: rest) (hq : (rest.map fun v => v.category).sum ≤ 8) (hdg : decode cc pc = .ok (.invokevirtual index, 3))
    (kx : k ≠ 0 → ∀ (a' : Nat → Nat → Nat) (H1 : Heap) (locs1 : List Loc) (q : Addr) (ce : Cell), AL a a' → Rel E a' σ' H1 → va_S (AE E) s.heap H1 locs1 → H1[q]? = some ce → ce.vm = .none → s.vm.findClass (xcl k) = some ce.cls → vx_W p l e R s m args below meth c H1 locs1 (cells + mc) (slots + ms) Q (F0 m pc ls rest) q)
    (kk : k = 0 → ∀ (a' : Nat → Nat → Nat) (H1 : Heap) (locs1 : List Loc), AL a a' → Rel E a' σ' H1 → va_S (AE E) s.heap H1 locs1 → W p l e R s m args below meth c H1 locs1 (cells + mc) (slots + ms) Q (F0 m (pc + 3) ls (rv.toList ++ rest))) : W p l e R s m args below meth c H locs cells slots Q (F0 m pc ls st) := by
  refine l_back (fun st o t h => ⟨h.1, h.2.1, ⟨a, AL.rf, h.2.2.1⟩, h.2.2.2⟩) (fun cls st t h => ⟨h.1, h.2.1, ⟨a, AL.rf, h.2.2.1⟩, h.2.2.2⟩) (vx_runV (As := As) (rest := rest) (Ts := GW) (own := own) (C := RRf 8) (b := a 8 0) (nL := nL) (n := n) (g := F0 m pc ls st) ⟨C.1, C.2.1, C.2.2.1, C.2.2.2.1, C.2.2.2.2.1⟩ hM (cwV n C.2.2.2.2.1 (gw_goodIn ?_) rfl rfl rfl hy.1 ⟨hf.1, hf.2.1⟩) ⟨PW.blind, r_recv C hR (lv0 (by decide) (by decide)) (by decide), fun U hU hW => ⟨rfl, pw_at C hR hS hU hW⟩⟩ rfl hn hl hst (lv_room hq) hdg hf.2.2) hS kx kk
  intro w hw'
  unfold wsV at hw'
  simp only [List.cons_append, List.nil_append, List.mem_cons] at hw'
  rcases hw' with h | h | h | h | h | h
  · rw [h]; exact hw
  · rw [h]; exact hy.2.1
  · rw [h]; exact hy.2.2.1
  · rw [h]; exact hy.2.2.2.1
  · rw [h]; exact hy.2.2.2.2
  · exact h
theorem l_callE {y : MethodName} {b' : ByteArray} {mL' fr lo index n k : Nat} {ret' : Option FieldType} {As : List Value} {rv : Option Value} {σ' : HS} {st : List Value} (C : Cx E p s m args meth c cc nL own) (hM : CtXE l E y b' mL' ret' fr lo mc ms a σ (.ref (a 8 0) :: As) k rv σ') (hR : Rel E a σ H) (hS : va_S (AE E) s.heap H locs) (hw : Cond.methodLink own index y ∈ GW) (hy : MW y (RRf 8) b' mL' ret' n) (hn : As.length = n)
    (hf : fr + 1 ≤ R.frames ∧ 8 + (mL' + 11) + lo ≤ R.locals ∧ cells + mc ≤ R.cells ∧ slots + ms ≤ R.slots) (hl : ls.size = nL) (hst : st = As.reverse ++ .ref (a 8 0) :: rest) (hq : (rest.map fun v => v.category).sum ≤ 8) (hdg : decode cc pc = .ok (.invokevirtual index, 3))
    (kx : k ≠ 0 → ∀ (a' : Nat → Nat → Nat) (H1 : Heap) (locs1 : List Loc) (q : Addr) (ce : Cell), AL a a' → Rel E a' σ' H1 → va_S (AE E) s.heap H1 locs1 → H1[q]? = some ce → ce.vm = .none → s.vm.findClass (xcl k) = some ce.cls → vx_W p l e R s m args below meth c H1 locs1 (cells + mc) (slots + ms) Q (F0 m pc ls rest) q)
    (kk : k = 0 → ∀ (a' : Nat → Nat → Nat) (H1 : Heap) (locs1 : List Loc), AL a a' → Rel E a' σ' H1 → va_S (AE E) s.heap H1 locs1 → W p l e R s m args below meth c H1 locs1 (cells + mc) (slots + ms) Q (F0 m (pc + 3) ls (rv.toList ++ rest))) : W p l e R s m args below meth c H locs cells slots Q (F0 m pc ls st) := by
  refine l_back (fun st o t h => ⟨h.1, h.2.1, h.2.2.1.imp fun a' z => ⟨fun r i h1 h2 _ => z.1 r i h1 h2, z.2⟩, h.2.2.2⟩) (fun cls st t h => ⟨h.1, h.2.1, h.2.2.1.imp fun a' z => ⟨fun r i h1 h2 _ => z.1 r i h1 h2, z.2⟩, h.2.2.2⟩) (vx_runV (As := As) (rest := rest) (Ts := GW) (own := own) (C := RRf 8) (b := a 8 0) (nL := nL) (n := n) (g := F0 m pc ls st) ⟨C.1, C.2.1, C.2.2.1, C.2.2.2.1, C.2.2.2.2.1⟩ hM (cwV n C.2.2.2.2.1 (gw_goodIn ?_) rfl rfl rfl hy.1 ⟨hf.1, hf.2.1⟩) ⟨PW.blind, r_recv C hR (lv0 (by decide) (by decide)) (by decide), fun U hU hW => ⟨rfl, pw_at C hR hS hU hW⟩⟩ rfl hn hl hst (lv_room hq) hdg hf.2.2) hS kx kk
  intro w hw'
  unfold wsV at hw'
  simp only [List.cons_append, List.nil_append, List.mem_cons] at hw'
  rcases hw' with h | h | h | h | h | h
  · rw [h]; exact hw
  · rw [h]; exact hy.2.1
  · rw [h]; exact hy.2.2.1
  · rw [h]; exact hy.2.2.2.1
  · rw [h]; exact hy.2.2.2.2
  · exact h
theorem l_ng (C : Cx E p s m args meth c cc nL own) : NG s := C.2.2.2.2.2.2.2.1.2.2.2.2.2.2
theorem l_cast1 (C : Cx E p s m args meth c cc nL own) : (Cond.castable (xcl 1) "java/lang/IllegalArgumentException").before args s = true := va_Nw.use rfl ((l_ng C).1 (.castable "java/lang/IllegalArgumentException" "java/lang/IllegalArgumentException") (by simp [ngL]))
theorem l_cast2 (C : Cx E p s m args meth c cc nL own) : (Cond.castable (xcl 2) "java/util/NoSuchElementException").before args s = true := va_Nw.use rfl ((l_ng C).1 (.castable "java/util/NoSuchElementException" "java/util/NoSuchElementException") (by simp [ngL]))
theorem l_cast3 (C : Cx E p s m args meth c cc nL own) : (Cond.castable (xcl 3) "java/lang/IndexOutOfBoundsException").before args s = true := va_Nw.use rfl ((l_ng C).1 (.castable "java/lang/IndexOutOfBoundsException" "java/lang/IndexOutOfBoundsException") (by simp [ngL]))
theorem l_nc12 (C : Cx E p s m args meth c cc nL own) : va_Nc (xcl 1) "java/util/NoSuchElementException" s := (l_ng C).2.1
theorem l_nc13 (C : Cx E p s m args meth c cc nL own) : va_Nc (xcl 1) "java/lang/IndexOutOfBoundsException" s := (l_ng C).2.2.1
theorem l_nc32 (C : Cx E p s m args meth c cc nL own) : va_Nc (xcl 3) "java/util/NoSuchElementException" s := (l_ng C).2.2.2
end R10
