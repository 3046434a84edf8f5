/-! ===== rows of a constructor ===== -/
/-- the words that a constructor wants and that are no good words -/
def nlL : List Cond := [.methodLinkNest RX8 9 yX5_init RX8, .methodLinkNest RX2 11 yX1_init RX8, .methodLinkNest RX8 69 yX7_init RX8, .methodLinkNest RX7 11 yX3_init RX8, .methodLinkNest RX7 20 yX6_init RX8, .methodLinkNest RX8 91 yX3_init RX8, .methodLinkNest RX8 92 yX6_init RX8, .methodLinkNest RX8 93 yX1_init RX8]
def ovL : List FieldType := [.object RX3, .object RX6, .object RX1, .object RX0, .array .int]
def OV (t : FieldType) (U : State) : Prop := (Cond.arrayOver t).before #[] U = true
theorem OV.use {t : FieldType} {args : Array Value} {U : State} (h : OV t U) : (Cond.arrayOver t).before args U = true := h
theorem OV.same {t : FieldType} {u U : State} (hv : u.vm = U.vm) (h : OV t u) : OV t U := by
  unfold OV Cond.before Cond.holds at h ⊢
  simp only [Cond.value] at h ⊢
  rw [← hv]; exact h
theorem OV.warm {t : FieldType} {s U : State} (hW : s.WarmedH U.vm) (h : OV t s) : OV t U := by
  have h1 : OV t (s.setVm U.vm) := by
    unfold OV
    rw [Cond.arrayOver_setVmC hW.alike]; exact h
  exact OV.same rfl h1
def NL (U : State) : Prop := (∀ w ∈ nlL, va_Nw w U) ∧ ∀ t ∈ ovL, OV t U
theorem nlL_ot : ∀ w ∈ nlL, w.onTables = true := by decide
theorem NL.go {s U : State} (h : NL s) (hW : s.WarmedH U.vm) : NL U := by
  refine ⟨fun w hw => ?_, fun t ht => (h.2 t ht).warm hW⟩
  have h1 := h.1 w hw
  simp only [nlL, List.mem_cons, List.not_mem_nil, or_false] at hw
  rcases hw with rfl | rfl | rfl | rfl | rfl | rfl | rfl | rfl
  · exact va_Nw.warmM hW h1
  · exact va_Nw.warmM hW h1
  · exact va_Nw.warmM hW h1
  · exact va_Nw.warmM hW h1
  · exact va_Nw.warmM hW h1
  · exact va_Nw.warmM hW h1
  · exact va_Nw.warmM hW h1
  · exact va_Nw.warmM hW h1
theorem NL.same {u U : State} (hv : u.vm = U.vm) (h : NL u) : NL U := ⟨fun w hw => va_Nw.same (nlL_ot w hw) hv (h.1 w hw), fun t ht => (h.2 t ht).same hv⟩
def PIn (E : EV) (A : Nat → Nat → Prop) (P : Nat → Nat → Nat → Prop) (a : Nat → Nat → Nat) (U : State) : Prop := RWm E A P a U.heap ∧ va_K (eD E) vwCl (tysE E) U ∧ KS E U U.heap ∧ NL U ∧ eB E ≤ U.heap.size
def AGP (A : Nat → Nat → Prop) (a a' : Nat → Nat → Nat) : Prop := ∀ r i, A r i → a' r i = a r i
def QIn (E : EV) (A0 : Nat → Nat → Prop) (a0 : Nat → Nat → Nat) (A : Nat → Nat → Prop) (P : Nat → Nat → Nat → Prop) : Array Value → State → Outcome → State → Prop := fun _ st o t => o = .returned none ∧ (∃ a', AGP A0 a0 a' ∧ RWm E A P a' t.heap) ∧ va_F (AE E) st t
/-- a constructor's contract -/
def CtI (l : Launch) (E : EV) (y : MethodName) (b : ByteArray) (mL fr lo mc ms : Nat) (A0 : Nat → Nat → Prop) (P0 : Nat → Nat → Nat → Prop) (a0 : Nat → Nat → Nat) (av : List Value) (A : Nat → Nat → Prop) (P : Nat → Nat → Nat → Prop) : Prop :=
  Met l y (Cond.code y b mL none :: GW) { frames := fr, cells := mc, slots := ms, locals := lo } (va_Pc av (PIn E A0 P0 a0)) (QIn E A0 a0 A P) mc ms (AE E)
theorem PIn.blind {E : EV} {A : Nat → Nat → Prop} {P : Nat → Nat → Nat → Prop} {a : Nat → Nat → Nat} {av : List Value} : FrameBlind (va_Pc av (PIn E A P a)) := by
  intro v U g mk h
  obtain ⟨h1, h2, h3, h4, h5, h6⟩ := h
  refine ⟨h1, h2, va_K.moved (u := U) (U := U.calling g mk v) (Vm.Alike.refl U.vm) h3, ?_, NL.same (u := U) (U := U.calling g mk v) rfl h5, h6⟩
  exact ⟨h4.1.moved (U := U.calling g mk v) (Vm.Alike.refl U.vm), fun q hm => (h4.2.1 q hm).same rfl, h4.2.2.1.moved (U := U.calling g mk v) (Vm.Alike.refl U.vm), h4.2.2.2.1.moved (U := U.calling g mk v) (Vm.Alike.refl U.vm), h4.2.2.2.2.1.moved (U := U.calling g mk v) (Vm.Alike.refl U.vm), h4.2.2.2.2.2.1.moved (U := U.calling g mk v) (Vm.Alike.refl U.vm), NG.same (u := U) (U := U.calling g mk v) rfl h4.2.2.2.2.2.2⟩
def CI (E : EV) (p : Program) (s : State) (m : MethodId) (args : Array Value) (meth : Method) (c : Code) (cc : ByteArray) (nL : Nat) (own : String) : Prop := Cx E p s m args meth c cc nL own ∧ NL s
theorem CtI.start {l : Launch} {E : EV} {y : MethodName} {b : ByteArray} {mL fr lo mc ms : Nat} {A0 A : Nat → Nat → Prop} {P0 P : Nat → Nat → Nat → Prop} {a0 : Nat → Nat → Nat} {av : List Value} (hy : plainName y.cls = true) (hn : (lg_sl av).length ≤ mL) (hnm : y.name = "<init>")
    (body : ∀ (p : Program) (e : Env) (s : State) (m : MethodId) (args : Array Value) (below : List Frame) (meth : Method) (c : Code) (ls : Array Slot), CI E p s m args meth c b mL y.cls → meth.name = "<init>" → meth.sig.returnType = none → RWm E A0 P0 a0 s.heap → va_S (AE E) s.heap s.heap [] → lv_has ls mL (lv_args 0 av) →
      W p l e { frames := fr, cells := mc, slots := ms, locals := lo } s m args below meth c s.heap [] 0 0 (MQ below (QIn E A0 a0 A P) args s mc ms (AE E)) (F0 m 0 ls [])) : CtI l E y b mL fr lo mc ms A0 P0 a0 av A P := by
  refine Met.ofW (cc := b) (maxL := mL) (ret := none) hy rfl ?_
  intro p e s m args below meth c s₁ B hml hv
  obtain ⟨rfl, hR, hK, hKS, hNL, hsz⟩ := hv
  have hts := atoms_spec (ws := Cond.code y b mL none :: GW) B.pre
  have C : Cx E p s m av.toArray meth c b mL y.cls := ⟨B.exec, B.bytes, hml, findClass_of_methodNamed B.named, fun w h => hts w (List.mem_cons_of_mem _ h), B.notSynchronized, hK, hKS, hsz⟩
  have hin : meth.name = "<init>" := (name_of_methodNamed B.named B.method).1.trans hnm
  have hl := lv_entry av (n := mL) hn
  rw [lg_entry_eq]
  generalize (lg_sl av ++ List.replicate (mL - (lg_sl av).length) Slot.unset).toArray = ls at hl ⊢
  exact body p e s m _ below meth c ls ⟨C, hNL⟩ hin B.returns hR va_S.rf hl
theorem aw_obji : Cond.instanceMethod Lib.objectInit ∈ GW ∧ Cond.code Lib.objectInit ⟨#[0xb1]⟩ 1 none ∈ GW := ⟨gw_t 29 (by decide +kernel) (by decide +kernel), gw_t 30 (by decide +kernel) (by decide +kernel)⟩
section R7
variable {p : Program} {l : Launch} {e : Env} {R : Room} {s : State} {m : MethodId} {args : Array Value} {below : List Frame} {meth : Method} {c : Code} {H : Heap} {locs : List Loc} {cells slots mc ms : Nat} {Q : State → Prop}
variable {cc : ByteArray} {pc nL : Nat} {ls : Array Slot} {rest : List Value} {E : EV} {a a0 : Nat → Nat → Nat} {own : String} {A A0 : Nat → Nat → Prop} {P P0 : Nat → Nat → Nat → Prop}
theorem w_obji {idx b : Nat} (C : CI E p s m args meth c cc nL own) (hw : Cond.methodLink own idx Lib.objectInit ∈ GW) (hl : ls.size = nL) (hf : 1 ≤ R.frames) (hlo : (rest.map fun v => v.category).sum + 12 ≤ R.locals) (hdg : decode cc pc = .ok (.invokespecial idx, 3))
    (kk : W p l e R s m args below meth c H locs cells slots Q (F0 m (pc + 3) ls rest)) : W p l e R s m args below meth c H locs cells slots Q (F0 m pc ls (.ref b :: rest)) := by
  have C1 := C.1
  exact W.objInit C1.1 C1.2.1 C1.2.2.2.1 (C1.2.2.2.2.1 _ hw) (C1.2.2.2.2.1 _ aw_obji.1) (C1.2.2.2.2.1 _ aw_obji.2) rfl (hl.trans C1.2.2.1.symm) rfl hdg hf (by show 2 * 0 + _ + 12 ≤ _; omega) kk
theorem w_put (C : CI E p s m args meth c cc nL own) (hin : meth.name = "<init>") (h : RWm E A P a H) (hS0 : va_S (AE E) s.heap H locs) (r i k : Nat) {v : Value} {ty : FieldType} {index : Nat} (hA : A r i) (hr : r < 10) (hk : k < nfS r) (hv : slot a σ0 r i k = v) (hrf : ∀ t j, rfo r i k = some (t, j) → A t j) (hw : Cond.fieldLink own index (TTf r k).1 (TTf r k).2.1 (TTf r k).2.2.1 ∈ GW) (hown : (TTf r k).1 = own) (hd : parseFieldDescriptor (TTf r k).2.2.1 = some ty) (hn : narrow ty v = v) (hfit : fits ty v = true) (hdg : decode cc pc = .ok (.putfield index, 3))
    (kk : ∀ (H1 : Heap) (locs1 : List Loc), RWm E A (aP P r i (fun k' => k' = k)) a H1 → va_S (AE E) s.heap H1 locs1 → W p l e R s m args below meth c H1 locs1 cells slots Q (F0 m (pc + 3) ls rest)) : W p l e R s m args below meth c H locs cells slots Q (F0 m pc ls (v :: .ref (a r i) :: rest)) := by
  have C1 := C.1
  have hap := va_apart (own := own) C1.2.2.2.2.1 (uw_in hr) (tyf r) (ty_all r hr) (nm_all r hr) C1.2.2.2.2.2.2.1 (vwCl_at r hr)
  obtain ⟨f0, h0, hf0⟩ := h.1 r i hA
  unfold cellF at h0
  rw [if_pos hr] at h0
  obtain ⟨cell, q1, q2, q3, q4⟩ := h0
  obtain ⟨hS, hfc, kC, hkC, hkind⟩ := C1.2.2.2.2.2.2.1.1 r _ (vwCl_at r hr)
  obtain ⟨cf, kf, fi, f, hi2, hsl⟩ := hS k hk
  have hlay := C1.2.2.2.2.1 _ (ly_all r hr k hk)
  have hst := (u_facts hfc hkC (u_lays C1.2.2.2.2.1 (uw_in hr) hk) hi2).1
  have done : ∀ H' : Heap, H'[a r i]? = some (cell.setSlot f.slot v) → H'.size = H.size → (∀ q, q ≠ a r i → H'[q]? = H[q]?) → W p l e R s m args below meth c H' (locs ++ [⟨a r i, f.slot⟩]) cells slots Q (F0 m (pc + 3) ls rest) := by
    intro H' e1 e2 e3
    rw [hsl] at e1 ⊢
    refine kk H' _ (h.put hA hf0 hv hrf ?_ e3) (hS0.put e2 e3 (h.2.2.1 r i hA))
    unfold cellF
    rw [if_pos hr]
    exact ⟨_, e1, q2, q3, t_set q4 hap hk v⟩
  unfold u_lay at hlay
  by_cases hfin : (TTf r k).2.2.2 = true
  · rw [if_pos hfin] at hlay
    have hcf : m.cls = cf := by
      obtain ⟨_, _, c', _, _, _, -, -, hf', -, -, -, hown2, -⟩ := Cond.laysFinal_spec hlay
      have e1 : c' = cf := by have := hi2.symm.trans hf'; simp at this; exact this.1.symm
      rw [hown] at hown2
      rw [← e1]; exact Option.some.inj (C1.2.2.2.1.symm.trans hown2)
    have h6 := u_fits hfc hkC hkind (Or.inr hlay) hi2 hd hn hfit
    exact W.putFinK C1.1 C1.2.1 C1.2.2.2.1 (C1.2.2.2.2.1 _ hw) hi2 hst hcf hin (by rw [q2]; exact h6) q1 q3 (by rw [hsl]; exact k2_hasslot (q4 k hk)) rfl rfl hdg done
  · rw [if_neg hfin] at hlay
    have h6 := u_store hfc hkC hkind hlay hi2 hd hn hfit
    exact W.putK C1.1 C1.2.1 (f := f) ⟨C1.2.2.2.1, C1.2.2.2.2.1 _ hw, ⟨_, _, _, hi2⟩, hst⟩ (by rw [q2]; exact h6) q1 q3 (by rw [hsl]; exact k2_hasslot (q4 k hk)) rfl rfl hdg done
theorem RWm.fresh {r i : Nat} (h : RWm E A P a H) (hA : A r i) : a r i ≠ H.size := Nat.ne_of_lt (h.lt hA)
theorem ci_b (C : CI E p s m args meth c cc nL own) (hS : va_S (AE E) s.heap H locs) : eB E ≤ H.size := Nat.le_trans C.1.2.2.2.2.2.2.2.2 hS.1
theorem va_S.grow {A : Nat → Prop} {H0 H H1 : Heap} {locs : List Loc} (hS : va_S A H0 H locs) (hz : H.size ≤ H1.size) (o1 : ∀ q : Nat, q < H.size → H1[q]? = H[q]?) : va_S A H0 H1 locs := ⟨Nat.le_trans hS.1 hz, fun q g1 g2 => (o1 q (Nat.lt_of_lt_of_le g1 hS.1)).trans (hS.2.1 q g1 g2), hS.2.2⟩
/-- an array of ints, of zeros -/
theorem w_newI (C : CI E p s m args meth c cc nL own) (h : RWm E A P a H) (hS : va_S (AE E) s.heap H locs) (r i : Nat) {n : Int32} (hA : ¬ A r i) (hr : ¬ r < 10) (hk : akind r = 0) (hac : acode r = 0) (hn : ¬ n < 0) {N : Nat} (hlen : lenS σ0 r i = N) (hN : n.toNatClampNeg = N) (hbt : N * 4 ≤ 536870912) (hc : cells + 1 ≤ R.cells) (hs : slots + N ≤ R.slots) (hdg : decode cc pc = .ok (.newarray .int, 2))
    (kk : ∀ (a' : Nat → Nat → Nat) (H1 : Heap), AGP A a a' → RWm E (aA A r i) (aP P r i (fun k => gI σ0 r i k = 0)) a' H1 → va_S (AE E) s.heap H1 locs → W p l e R s m args below meth c H1 locs (cells + 1) (slots + N) Q (F0 m (pc + 2) ls (.ref (a' r i) :: rest))) (h92 : r ≠ 92 := by decide) : W p l e R s m args below meth c H locs cells slots Q (F0 m pc ls (.int n :: rest)) := by
  have C1 := C.1
  subst hlen
  refine va_newaK C1.1 C1.2.1 (atype := .int) (C1.2.2.2.2.1 _ aw_int) rfl hdg rfl hn hN hbt hc hs rfl fun H1 cA e1 z1 o1 hAr hNm => ?_
  have hcA : cA = eC E 0 := Option.some.inj (hNm.symm.trans (C1.2.2.2.2.2.2.1.2 0 (eC E 0, .int) rfl).2)
  subst hcA
  have k1 := kk (upA a r i H.size) H1 (fun r' i' z => upA_ne (fun q => hA (by rw [← q.1, ← q.2]; exact z))) ((h.grow o1).add h92 (f := fun _ => .int 0) hA (fun r' i' z => h.fresh z) (ci_b C hS) ?_ fun k hk => ⟨?_, fun t j ht => ?_⟩) (hS.grow (by omega) o1)
  · rw [upA_self] at k1; exact k1
  · unfold cellF
    rw [if_neg hr, upA_self, hk]
    exact e1
  · unfold slot
    rw [if_neg hr, hac, hk]
  · unfold rfo at ht
    rw [if_neg hr, hac] at ht
    cases ht
theorem w_newL (C : CI E p s m args meth c cc nL own) (h : RWm E A P a H) (hS : va_S (AE E) s.heap H locs) (r i : Nat) {n : Int32} (hA : ¬ A r i) (hr : ¬ r < 10) (hk : akind r = 1) (hac : acode r = 1) (hn : ¬ n < 0) {N : Nat} (hlen : lenS σ0 r i = N) (hN : n.toNatClampNeg = N) (hbt : N * 8 ≤ 536870912) (hc : cells + 1 ≤ R.cells) (hs : slots + N ≤ R.slots) (hdg : decode cc pc = .ok (.newarray .long, 2))
    (kk : ∀ (a' : Nat → Nat → Nat) (H1 : Heap), AGP A a a' → RWm E (aA A r i) (aP P r i (fun _ => True)) a' H1 → va_S (AE E) s.heap H1 locs → W p l e R s m args below meth c H1 locs (cells + 1) (slots + N) Q (F0 m (pc + 2) ls (.ref (a' r i) :: rest))) (h92 : r ≠ 92 := by decide) (h90 : r ≠ 90 := by decide) : W p l e R s m args below meth c H locs cells slots Q (F0 m pc ls (.int n :: rest)) := by
  have C1 := C.1
  subst hlen
  refine va_newaK C1.1 C1.2.1 (atype := .long) (C1.2.2.2.2.1 _ aw_long) rfl hdg rfl hn hN hbt hc hs rfl fun H1 cA e1 z1 o1 hAr hNm => ?_
  have hcA : cA = eC E 1 := Option.some.inj (hNm.symm.trans (C1.2.2.2.2.2.2.1.2 1 (eC E 1, .long) rfl).2)
  subst hcA
  have k1 := kk (upA a r i H.size) H1 (fun r' i' z => upA_ne (fun q => hA (by rw [← q.1, ← q.2]; exact z))) ((h.grow o1).add h92 (f := fun _ => .long 0) hA (fun r' i' z => h.fresh z) (ci_b C hS) ?_ fun k hk => ⟨?_, fun t j ht => ?_⟩) (hS.grow (by omega) o1)
  · rw [upA_self] at k1; exact k1
  · unfold cellF
    rw [if_neg hr, upA_self, hk]
    exact e1
  · unfold slot
    rw [if_neg hr, hac]
    show Value.long 0 = Value.long (if r = 90 then _ else _)
    rw [if_neg h90]
    rfl
  · unfold rfo at ht
    rw [if_neg hr, hac] at ht
    cases ht
/-- an array of references, of nulls -/
theorem w_newA (C : CI E p s m args meth c cc nL own) (h : RWm E A P a H) (hS : va_S (AE E) s.heap H locs) (r i : Nat) {n : Int32} {Cn : String} {index t0 : Nat} (hA : ¬ A r i) (hr : ¬ r < 10) (hk : akind r = t0) (ht0 : (tysE E)[t0]? = some (eC E t0, .object Cn)) (hcl : Cond.classLink own index Cn ∈ GW) (hov : FieldType.object Cn ∈ ovL) (hn : ¬ n < 0) {N : Nat} (hlen : lenS σ0 r i = N) (hN : n.toNatClampNeg = N) (hbt : N * 4 ≤ 536870912) (hc : cells + 1 ≤ R.cells) (hs : slots + N ≤ R.slots) (hdg : decode cc pc = .ok (.anewarray index, 3))
    (kk : ∀ (a' : Nat → Nat → Nat) (H1 : Heap), AGP A a a' → RWm E (aA A r i) (aP P r i (fun _ => False)) a' H1 → va_S (AE E) s.heap H1 locs → W p l e R s m args below meth c H1 locs (cells + 1) (slots + N) Q (F0 m (pc + 3) ls (.ref (a' r i) :: rest))) (h92 : r ≠ 92 := by decide) : W p l e R s m args below meth c H locs cells slots Q (F0 m pc ls (.int n :: rest)) := by
  have C1 := C.1
  subst hlen
  refine W.anew C1.1 C1.2.1 C1.2.2.2.1 (C1.2.2.2.2.1 _ hcl) (C.2.2 _ hov).use rfl hdg rfl hn (by rw [hN]; exact hbt) hc (by rw [hN]; exact hs) fun cA kA comp f1 f2 f3 f4 => ?_
  rw [hN]
  generalize hH1 : H.push ({ cls := cA, slots := Array.replicate (lenS σ0 r i) .null, vm := .none } : Cell) = H1
  have z1 : H1.size = H.size + 1 := by rw [← hH1, Array.size_push]
  have e1 : H1[H.size]? = some (arrV cA (lenS σ0 r i) (fun _ => .null)) := by rw [← hH1, Array.getElem?_push_size, ← arrV_new]
  have o1 : ∀ q : Nat, q < H.size → H1[q]? = H[q]? := fun q hq => by rw [← hH1, Array.getElem?_push, if_neg (Nat.ne_of_lt hq)]
  obtain ⟨-, kA', comp', g1, g2, g3, g4⟩ := C1.2.2.2.2.2.2.1.2 t0 _ ht0
  have hcA : cA = eC E t0 := Option.some.inj (f1.symm.trans g4)
  subst hcA
  have k1 := kk (upA a r i H.size) H1 (fun r' i' z => upA_ne (fun q => hA (by rw [← q.1, ← q.2]; exact z))) ((h.grow o1).add h92 (f := fun _ => .null) hA (fun r' i' z => h.fresh z) (ci_b C hS) ?_ fun k hk => hk.elim) (hS.grow (by omega) o1)
  · rw [upA_self] at k1; exact k1
  · unfold cellF
    rw [if_neg hr, upA_self, hk]
    exact e1
def isI (t : FieldType) : Bool := match t with
  | .int => true
  | .boolean => true
  | _ => false
theorem isI_def {t : FieldType} (h : isI t = true) : defaultValue t = .int 0 := by
  cases t <;> first | rfl | (cases h)
theorem isI_all : ∀ r, r < 10 → ∀ k, k < nfS r → fcode r k = 0 → isI (tyf r k) = true := by decide +kernel
/-- a new object -/
theorem w_new (C : CI E p s m args meth c cc nL own) (h : RWm E A P a H) (hS : va_S (AE E) s.heap H locs) (r i : Nat) {index : Nat} (hA : ¬ A r i) (hr : r < 10) (hcl : Cond.classLink own index (RRf r) ∈ GW) (hin : Cond.instantiable (RRf r) (nfS r) ∈ GW) (hini : Cond.initialized (RRf r) ∈ GW) {N : Nat} (hlen : nfS r = N) (hc : cells + 1 ≤ R.cells) (hs : slots + N ≤ R.slots) (hdg : decode cc pc = .ok (.new index, 3))
    (kk : ∀ (a' : Nat → Nat → Nat) (H1 : Heap), AGP A a a' → RWm E (aA A r i) (aP P r i (fun k => k < nfS r ∧ fcode r k = 0 ∧ iniV r k = 0)) a' H1 → va_S (AE E) s.heap H1 locs → W p l e R s m args below meth c H1 locs (cells + 1) (slots + N) Q (F0 m (pc + 3) ls (.ref (a' r i) :: rest))) : W p l e R s m args below meth c H locs cells slots Q (F0 m pc ls rest) := by
  have C1 := C.1
  subst hlen
  have h92 : r ≠ 92 := by omega
  have hKn := C1.2.2.2.2.2.2.1.1 r _ (vwCl_at r hr)
  refine W.newcK C1.1 C1.2.1 C1.2.2.2.1 (C1.2.2.2.2.1 _ hcl) (C1.2.2.2.2.1 _ hin) (C1.2.2.2.2.1 _ hini) rfl hdg hc hs hKn.2.1 rfl fun H1 kC hkC e1 z1 o1 => ?_
  have hbn := u_born (tyf r) C1.2.2.2.2.1 (uw_in hr) hKn hkC e1 (ty_all r hr)
  have k1 := kk (upA a r i H.size) H1 (fun r' i' z => upA_ne (fun q => hA (by rw [← q.1, ← q.2]; exact z))) ((h.grow o1).add h92 (f := fun k => defaultValue (tyf r k)) hA (fun r' i' z => h.fresh z) (ci_b C hS) ?_ fun k hk => ⟨?_, fun t j ht => ?_⟩) (hS.grow (by omega) o1)
  · rw [upA_self] at k1; exact k1
  · unfold cellF
    rw [if_pos hr, upA_self]
    exact hbn
  · rw [isI_def (isI_all r hr k hk.1 hk.2.1)]
    unfold slot
    rw [if_pos hr, hk.2.1]
    show Value.int 0 = Value.int (if r < 10 then iniV r k else _)
    rw [if_pos hr, hk.2.2]
  · unfold rfo at ht
    rw [if_pos hr, hk.2.1] at ht
    cases ht
theorem w_get (C : CI E p s m args meth c cc nL own) (h : RWm E A P a H) (r i k : Nat) {v : Value} {index : Nat} (hP : P r i k) (hr : r < 10) (hk : k < nfS r) (hs : slot a σ0 r i k = v) (hw : Cond.fieldLink own index (TTf r k).1 (TTf r k).2.1 (TTf r k).2.2.1 ∈ GW) (hdg : decode cc pc = .ok (.getfield index, 3))
    (kk : W p l e R s m args below meth c H locs cells slots Q (F0 m (pc + 3) ls (v :: rest))) : W p l e R s m args below meth c H locs cells slots Q (F0 m pc ls (.ref (a r i) :: rest)) := by
  have C1 := C.1
  obtain ⟨f0, h0, hf0⟩ := h.1 r i (h.2.2.2 _ _ _ hP).1
  unfold cellF at h0
  rw [if_pos hr] at h0
  obtain ⟨cell, q1, q2, q3, q4⟩ := h0
  obtain ⟨hS, hfc, kC, hkC, hkind⟩ := C1.2.2.2.2.2.2.1.1 r _ (vwCl_at r hr)
  obtain ⟨cf, kf, fi, f, hi2, hsl⟩ := hS k hk
  refine W.getf C1.1 C1.2.1 C1.2.2.2.1 (C1.2.2.2.2.1 _ hw) hi2 (u_facts hfc hkC (u_lays C1.2.2.2.2.1 (uw_in hr) hk) hi2).1 q1 (by rw [q3]; exact fun h => by cases h) (v := v) ?_ rfl rfl hdg kk
  rw [hsl, q4 k hk, hf0 k hP, hs]
theorem w_alen (C : CI E p s m args meth c cc nL own) (h : RWm E A P a H) (r i t0 : Nat) {ty : FieldType} {n : Nat} (hA : A r i) (hr : ¬ r < 10) (ha : akind r = t0) (ht : (tysE E)[t0]? = some (eC E t0, ty)) (hl : lenS σ0 r i = n) (hdg : decode cc pc = .ok (.arraylength, 1))
    (kk : W p l e R s m args below meth c H locs cells slots Q (F0 m (pc + 1) ls (.int n.toInt32 :: rest))) : W p l e R s m args below meth c H locs cells slots Q (F0 m pc ls (.ref (a r i) :: rest)) := by
  have C1 := C.1
  obtain ⟨f0, h0, hf0⟩ := h.1 r i hA
  unfold cellF at h0
  rw [if_neg hr, hl, ha] at h0
  exact W.alen C1.1 C1.2.1 h0 ((C1.2.2.2.2.2.2.1.2 t0 (eC E t0, ty) ht).1 n f0) (by rw [arrV_size]) rfl rfl hdg kk
theorem w_ast (C : CI E p s m args meth c cc nL own) (h : RWm E A P a H) (hS : va_S (AE E) s.heap H locs) (r i : Nat) {k : Nat} {j x : Int32} (hA : A r i) (hr : ¬ r < 10) (hk : akind r = 0) (hac : acode r = 0) (hx : gI σ0 r i k = x) (hc : ck (lenS σ0 r i) j = some k) (hdg : decode cc pc = .ok (.iastore, 1))
    (kk : ∀ (H1 : Heap) (locs1 : List Loc), RWm E A (aP P r i (fun k' => k' = k)) a H1 → va_S (AE E) s.heap H1 locs1 → W p l e R s m args below meth c H1 locs1 cells slots Q (F0 m (pc + 1) ls rest)) : W p l e R s m args below meth c H locs cells slots Q (F0 m pc ls (.int x :: .int j :: .ref (a r i) :: rest)) := by
  have C1 := C.1
  obtain ⟨f0, h0, hf0⟩ := h.1 r i hA
  unfold cellF at h0
  rw [if_neg hr] at h0
  obtain ⟨hin, hkk, hlt⟩ := ck_in hc
  refine W.iast C1.1 C1.2.1 h0 (by rw [hk]; exact (C1.2.2.2.2.2.2.1.2 0 (eC E 0, .int) rfl).1 _ f0) (fun q => by cases q) (by show ¬ (j < 0 ∨ (arrV _ _ _).slots.size ≤ _); rw [arrV_size]; exact hin) rfl rfl hdg fun H1 e1 e2 e3 => ?_
  refine kk H1 _ (h.put hA hf0 (v := .int x) ?_ (fun t j ht => ?_) ?_ e3) (hS.put e2 e3 (h.2.2.1 r i hA))
  · unfold slot
    rw [if_neg hr, hac, hx]
  · unfold rfo at ht
    rw [if_neg hr, hac] at ht
    cases ht
  · unfold cellF
    rw [if_neg hr, e1, arrV_store, ← hkk]
theorem w_aast (C : CI E p s m args meth c cc nL own) (h : RWm E A P a H) (hS : va_S (AE E) s.heap H locs) (r i t o t0 : Nat) {k : Nat} {j : Int32} {v : Nat} (hA : A r i) (hr : ¬ r < 10) (hk : akind r = t0) (hac : acode r = t + 2) (ho : roff r = o) (ht : t < 10) (ht0 : (tysE E)[t0]? = some (eC E t0, .object (RRf t))) (hT : A t (k + o)) (hv : a t (k + o) = v) (hc : ck (lenS σ0 r i) j = some k) (hdg : decode cc pc = .ok (.aastore, 1))
    (kk : ∀ (H1 : Heap) (locs1 : List Loc), RWm E A (aP P r i (fun k' => k' = k)) a H1 → va_S (AE E) s.heap H1 locs1 → W p l e R s m args below meth c H1 locs1 cells slots Q (F0 m (pc + 1) ls rest)) : W p l e R s m args below meth c H locs cells slots Q (F0 m pc ls (.ref v :: .int j :: .ref (a r i) :: rest)) := by
  subst hv
  have C1 := C.1
  obtain ⟨f0, h0, hf0⟩ := h.1 r i hA
  obtain ⟨f1, h1, hf1⟩ := h.1 t _ hT
  unfold cellF at h0 h1
  rw [if_neg hr, hk] at h0
  rw [if_pos ht] at h1
  obtain ⟨cellV, g1, g2, g3, g4⟩ := h1
  obtain ⟨hin, hkk, hlt⟩ := ck_in hc
  have hcls := (C1.2.2.2.2.2.2.1.1 t _ (vwCl_at t ht)).2
  obtain ⟨kA, comp, k1, k2, k3, -⟩ := (C1.2.2.2.2.2.2.1.2 t0 _ ht0).2
  have hcomp : comp = (eD E).1 t := Option.some.inj (k3.symm.trans hcls.1)
  subst hcomp
  obtain ⟨kC, hkC, -⟩ := hcls.2
  refine W.aast C1.1 C1.2.1 h0 (fun q h => by cases h) (fun h => by cases h) k1 k2 rfl hkC ⟨fun q => hin (Or.inl q), by show _ < (arrV _ _ _).slots.size; rw [arrV_size, ← hkk]; exact hlt⟩ g1 (fun q h => by rw [g3] at h; cases h) (by rw [g2]; exact hkC) (by rw [g2]; exact va_assign hcls) rfl rfl hdg fun H1 e1 e2 e3 => ?_
  refine kk H1 _ (h.put hA hf0 (v := .ref (a t (k + o))) ?_ (fun t' j' hq => ?_) ?_ e3) (hS.put e2 e3 (h.2.2.1 r i hA))
  · unfold slot
    rw [if_neg hr, hac, ho]
  · unfold rfo at hq
    rw [if_neg hr, hac, ho] at hq
    cases hq
    exact hT
  · unfold cellF
    rw [if_neg hr, e1, arrV_store, ← hkk, hk]
theorem AGP.rf : AGP A a a := fun _ _ _ => rfl
theorem AGP.tr {b : Nat → Nat → Nat} (h : AGP A0 a0 a) (h2 : AGP A a b) (hs : ∀ r i, A0 r i → A r i) : AGP A0 a0 b := fun r i z => (h2 r i (hs r i z)).trans (h r i z)
theorem e_vretI (hAG : AGP A0 a0 a) (C : CI E p s m args meth c cc nL own) (hr : meth.sig.returnType = none) (h : RWm E A P a H) (hS : va_S (AE E) s.heap H locs) (hc : cells ≤ mc) (hs : slots ≤ ms) (hdg : decode cc pc = .ok (.return_, 1)) : W p l e R s m args below meth c H locs cells slots (MQ below (QIn E A0 a0 A P) args s mc ms (AE E)) (F0 m pc ls []) := by
  refine W.widen (k := mc) (n := ms) hc hs ?_
  exact W.vret C.1.1 C.1.2.1 hr (fun t ht hW => ⟨rfl, ⟨a, hAG, by rw [ht]; exact h⟩, hS.F ht⟩) hS.2.2 hdg C.1.2.2.2.2.2.1
theorem pi_at (C : CI E p s m args meth c cc nL own) (h : RWm E A P a H) (hS : va_S (AE E) s.heap H locs) {U : State} (hU : U.heap = H) (hW : s.WarmedH U.vm) : PIn E A P a U :=
  ⟨by rw [hU]; exact h, va_K.moved hW.alike C.1.2.2.2.2.2.2.1, by rw [hU]; exact C.1.2.2.2.2.2.2.2.1.go hW hS.2.1, C.2.go hW, by rw [hU]; exact Nat.le_trans C.1.2.2.2.2.2.2.2.2 hS.1⟩
theorem i_back {A1 : Nat → Nat → Prop} {P1 : Nat → Nat → Nat → Prop} {st : List Value} {av : Array Value} (hr : va_Run p l e R s m args below meth c H locs cells slots mc ms (F0 m pc ls st) rest (QIn E A a A1 P1 av) (AE E)) (hS : va_S (AE E) s.heap H locs)
    (kk : ∀ (a' : Nat → Nat → Nat) (H1 : Heap) (locs1 : List Loc), AGP A a a' → RWm E A1 P1 a' H1 → va_S (AE E) s.heap H1 locs1 → W p l e R s m args below meth c H1 locs1 (cells + mc) (slots + ms) Q (F0 m (pc + 3) ls rest)) : W p l e R s m args below meth c H locs cells slots Q (F0 m pc ls st) := by
  intro T hT X
  obtain ⟨v, st₀, t, T', L, h0, X', hL, e1, e2, ⟨hv, ⟨a', hag, hRel⟩, hz, hk⟩, st1⟩ := hr T hT X
  cases hv
  rw [h0] at hz hk
  obtain ⟨t2, a1, b1⟩ := kk a' T'.heap (locs ++ L) hag (by rw [e1]; exact hRel)
    ⟨Nat.le_trans hS.1 (by rw [e1]; exact hz), fun q h1 h2 => by rw [e1, hk q (Nat.lt_of_lt_of_le h1 hS.1) h2]; exact hS.2.1 q h1 h2, fun q hq => by
      rcases List.mem_append.mp hq with h | h
      · exact hS.2.2 q h
      · exact hL q h⟩ T' rfl X'
  exact ⟨t2, st1 t2 a1, b1⟩
def MIm (y : MethodName) (b : ByteArray) (mL n : Nat) : Prop := (y.cls ≠ "java/lang/invoke/MethodHandle" ∧ y.cls ≠ "java/lang/invoke/VarHandle" ∧ (parseMethodDescriptor y.desc).map (fun d => d.parameters.length) = some n) ∧ y.name = "<init>" ∧ Cond.instanceMethod y ∈ GW ∧ Cond.initialized y.cls ∈ GW ∧ Cond.code y b mL none ∈ GW
theorem w_init {y : MethodName} {b' : ByteArray} {mL' fr lo q index n : Nat} {As : List Value} {st : List Value} {A1 : Nat → Nat → Prop} {P1 : Nat → Nat → Nat → Prop} (C : CI E p s m args meth c cc nL own) (hM : CtI l E y b' mL' fr lo mc ms A P a (.ref q :: As) A1 P1) (h : RWm E A P a H) (hS : va_S (AE E) s.heap H locs) (hw : Cond.methodLink own index y ∈ GW) (hy : MIm y b' mL' n) (hn : As.length = n)
    (hf : fr + 1 ≤ R.frames ∧ 8 + (mL' + 11) + lo ≤ R.locals ∧ cells + mc ≤ R.cells ∧ slots + ms ≤ R.slots) (hl : ls.size = nL) (hst : st = As.reverse ++ .ref q :: rest) (hq : (rest.map fun v => v.category).sum ≤ 8) (hdg : decode cc pc = .ok (.invokespecial index, 3))
    (kk : ∀ (a' : Nat → Nat → Nat) (H1 : Heap) (locs1 : List Loc), AGP A a a' → RWm E A1 P1 a' H1 → va_S (AE E) s.heap H1 locs1 → W p l e R s m args below meth c H1 locs1 (cells + mc) (slots + ms) Q (F0 m (pc + 3) ls rest)) : W p l e R s m args below meth c H locs cells slots Q (F0 m pc ls st) := by
  have C1 := C.1
  refine i_back (va_runI (As := As) (rest := rest) (Ts := GW) (own := own) (b := q) (nL := nL) (n := n) (g := F0 m pc ls st) ⟨C1.1, C1.2.1, C1.2.2.1, C1.2.2.2.1, C1.2.2.2.2.1⟩ hM ⟨callB_of n C1.2.2.2.2.1 (gw_goodIn fun w hw' => ?_) rfl rfl rfl (C1.2.2.2.2.1 _ hy.2.2.2.1) (C1.2.2.2.2.1 _ hw) hy.1 ⟨hf.1, hf.2.1⟩, hy.2.1, C1.2.2.2.2.1 _ hy.2.2.1⟩ ⟨PIn.blind, fun U hU hW => ⟨rfl, pi_at C h hS hU hW⟩⟩ rfl hn hl hst (lv_room hq) hdg hf.2.2) hS kk
  rcases List.mem_cons.mp hw' with h | h
  · rw [h]; exact hy.2.2.2.2
  · exact h
theorem w_initN {y : MethodName} {b' : ByteArray} {mL' fr lo q index n : Nat} {host : String} {As : List Value} {st : List Value} {A1 : Nat → Nat → Prop} {P1 : Nat → Nat → Nat → Prop} (C : CI E p s m args meth c cc nL own) (hM : CtI l E y b' mL' fr lo mc ms A P a (.ref q :: As) A1 P1) (h : RWm E A P a H) (hS : va_S (AE E) s.heap H locs) (hw : Cond.methodLinkNest own index y host ∈ nlL) (hy : MIm y b' mL' n) (hn : As.length = n)
    (hf : fr + 1 ≤ R.frames ∧ 8 + (mL' + 11) + lo ≤ R.locals ∧ cells + mc ≤ R.cells ∧ slots + ms ≤ R.slots) (hl : ls.size = nL) (hst : st = As.reverse ++ .ref q :: rest) (hq : (rest.map fun v => v.category).sum ≤ 8) (hdg : decode cc pc = .ok (.invokespecial index, 3))
    (kk : ∀ (a' : Nat → Nat → Nat) (H1 : Heap) (locs1 : List Loc), AGP A a a' → RWm E A1 P1 a' H1 → va_S (AE E) s.heap H1 locs1 → W p l e R s m args below meth c H1 locs1 (cells + mc) (slots + ms) Q (F0 m (pc + 3) ls rest)) : W p l e R s m args below meth c H locs cells slots Q (F0 m pc ls st) := by
  have C1 := C.1
  refine i_back (va_runIN (As := As) (rest := rest) (Ts := GW) (own := own) (host := host) (b := q) (nL := nL) (n := n) (g := F0 m pc ls st) ⟨C1.1, C1.2.1, C1.2.2.1, C1.2.2.2.1, C1.2.2.2.2.1⟩ hM ⟨va_cnB n C1.2.2.2.2.1 (gw_goodIn fun w hw' => ?_) rfl rfl rfl (C.2.1 _ hw) (C1.2.2.2.2.1 _ hy.2.2.2.1) hy.1 ⟨hf.1, hf.2.1⟩, hy.2.1, C1.2.2.2.2.1 _ hy.2.2.1⟩ ⟨PIn.blind, fun U hU hW => ⟨rfl, pi_at C h hS hU hW⟩⟩ rfl hn hl hst (lv_room hq) hdg hf.2.2) hS kk
  rcases List.mem_cons.mp hw' with h | h
  · rw [h]; exact hy.2.2.2.2
  · exact h
end R7
