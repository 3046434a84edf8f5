def strL : List (String × Nat × String × Nat) := [("MiddleUnseen$LawReader", 100, "(", 1), ("MiddleUnseen$LawReader", 106, ",", 2), ("MiddleUnseen$LawReader", 108, ")", 3), ("MiddleUnseen$LawReader", 113, "or ", 4), ("MiddleUnseen$LawReader", 118, "and ", 5), ("MiddleUnseen$LawReader", 120, "not ", 6), ("MiddleUnseen$LawReader", 122, "[", 7), ("MiddleUnseen$LawReader", 124, "]", 8), ("MiddleUnseen$LawReader", 126, "<>=", 9), ("MiddleUnseen$LawReader", 29, "gets line keeps sure ", 10), ("MiddleUnseen$LawReader", 41, ";", 0), ("MiddleUnseen$LawReader", 61, "if ", 11), ("MiddleUnseen$LawReader", 75, "+-", 12), ("MiddleUnseen$LawReader", 86, "*/", 13), ("MiddleUnseen$LawReader", 96, "like drop near size pace full odd watch change knows tenth ", 14), ("MiddleUnseen$LawReader", 98, "least most ", 15), ("MiddleUnseen$Scene", 55, "thing way throw odd turn ", 16), ("MiddleUnseen$Scene", 67, ";", 0), ("MiddleUnseen$Task", 27, "keep drop count room watch ", 17), ("MiddleUnseen$Task", 43, ";", 0)]
/-- the words that a throw wants and that are no tables' words -/
def ngL : List Cond := [.castable "java/lang/IllegalArgumentException" "java/lang/IllegalArgumentException", .castable "java/util/NoSuchElementException" "java/util/NoSuchElementException", .castable "java/lang/IndexOutOfBoundsException" "java/lang/IndexOutOfBoundsException", .declares ⟨"java/lang/RuntimeException", "<init>", "()V"⟩, .declares ⟨"java/lang/Exception", "<init>", "()V"⟩, .declares ⟨"java/lang/Throwable", "<init>", "()V"⟩]
def NG (U : State) : Prop := (∀ w ∈ ngL, va_Nw w U) ∧ va_Nc "java/lang/IllegalArgumentException" "java/util/NoSuchElementException" U ∧ va_Nc "java/lang/IllegalArgumentException" "java/lang/IndexOutOfBoundsException" U ∧ va_Nc "java/lang/IndexOutOfBoundsException" "java/util/NoSuchElementException" U
theorem ngL_ot : ∀ w ∈ ngL, w.onTables = true := by decide
theorem NG.go {s U : State} (h : NG s) (hW : s.WarmedH U.vm) : NG U := by
  refine ⟨fun w hw => ?_, h.2.1.moved hW.alike, h.2.2.1.moved hW.alike, h.2.2.2.moved hW.alike⟩
  have h1 := h.1 w hw
  simp only [ngL, List.mem_cons, List.not_mem_nil, or_false] at hw
  rcases hw with rfl | rfl | rfl | rfl | rfl | rfl
  · exact va_Nw.warmC hW h1
  · exact va_Nw.warmC hW h1
  · exact va_Nw.warmC hW h1
  · exact va_Nw.warmD hW h1
  · exact va_Nw.warmD hW h1
  · exact va_Nw.warmD hW h1
theorem NG.same {u U : State} (hv : u.vm = U.vm) (h : NG u) : NG U :=
  ⟨fun w hw => va_Nw.same (ngL_ot w hw) hv (h.1 w hw), h.2.1.moved (by rw [hv]; exact Vm.Alike.refl U.vm), h.2.2.1.moved (by rw [hv]; exact Vm.Alike.refl U.vm), h.2.2.2.moved (by rw [hv]; exact Vm.Alike.refl U.vm)⟩
/-- what stands at the start and stays: String constants, the statics that a throw reads -/
def KS (E : EV) (U : State) (H : Heap) : Prop := vk_S 18 lenC bytC (eK E) (eV E) (AE E) U H ∧ (∀ q ∈ strL, vk_R q.1 q.2.1 q.2.2.1 (eK E q.2.2.2) U) ∧ va_Z "java/lang/String" "COMPACT_STRINGS" "Z" (.int 1) (AE E) U H ∧ vx_Zq Bundle.tN "UNASSIGNED_STACK" Bundle.steD (AE E) U H ∧ vx_Zq Bundle.tN "SUPPRESSED_SENTINEL" Bundle.listD (AE E) U H ∧ va_Zq "jdk/internal/util/Preconditions" "SIOOBE_FORMATTER" "Ljava/util/function/BiFunction;" (AE E) U H ∧ NG U
theorem KS.go {E : EV} {s U : State} {H : Heap} (h : KS E s s.heap) (hW : s.WarmedH U.vm) (hq : ∀ a : Nat, a < s.heap.size → ¬ AE E a → H[a]? = s.heap[a]?) : KS E U H :=
  ⟨(h.1.kept hq).moved hW.alike, fun q hm => (h.2.1 q hm).warm hW, (h.2.2.1.kept hq).moved hW.alike, (h.2.2.2.1.kept hq).moved hW.alike, (h.2.2.2.2.1.kept hq).moved hW.alike, (h.2.2.2.2.2.1.kept hq).moved hW.alike, h.2.2.2.2.2.2.go hW⟩
def Cx (E : EV) (p : Program) (s : State) (m : MethodId) (args : Array Value) (meth : Method) (c : Code) (cc : ByteArray) (nL : Nat) (own : String) : Prop :=
  p.tables.exec = Jvm.exec ∧ c.code = cc ∧ c.maxLocals = nL ∧ s.vm.findClass own = some m.cls ∧ (∀ w ∈ GW, w.before args s = true) ∧ meth.locks = false ∧ va_K (eD E) vwCl (tysE E) s ∧ KS E s s.heap ∧ eB E ≤ s.heap.size
def PW (E : EV) (a : Nat → Nat → Nat) (σ : HS) (U : State) : Prop := Rel E a σ U.heap ∧ va_K (eD E) vwCl (tysE E) U ∧ KS E U U.heap ∧ eB E ≤ U.heap.size
def QW (E : EV) (a : Nat → Nat → Nat) (rv : Option Value) (σ' : HS) : Array Value → State → Outcome → State → Prop := fun _ st o t => o = .returned rv ∧ Rel E a σ' t.heap ∧ va_F (AE E) st t
/-- a method's contract: from σ it returns rv, and the store is σ' -/
def Ct (l : Launch) (E : EV) (y : MethodName) (b : ByteArray) (mL : Nat) (ret : Option FieldType) (fr lo mc ms : Nat) (a : Nat → Nat → Nat) (σ : HS) (av : List Value) (rv : Option Value) (σ' : HS) : Prop :=
  Met l y (Cond.code y b mL ret :: GW) { frames := fr, cells := mc, slots := ms, locals := lo } (va_Pc av (PW E a σ)) (QW E a rv σ') mc ms (AE E)
theorem PW.blind {E : EV} {a : Nat → Nat → Nat} {σ : HS} {av : List Value} : FrameBlind (va_Pc av (PW E a σ)) := by
  intro v U g mk h
  obtain ⟨h1, h2, h3, h4, h5⟩ := h
  refine ⟨h1, h2, va_K.moved (u := U) (U := U.calling g mk v) (Vm.Alike.refl U.vm) h3, ?_, h5⟩
  exact ⟨h4.1.moved (U := U.calling g mk v) (Vm.Alike.refl U.vm), fun q hm => (h4.2.1 q hm).same rfl, h4.2.2.1.moved (U := U.calling g mk v) (Vm.Alike.refl U.vm), h4.2.2.2.1.moved (U := U.calling g mk v) (Vm.Alike.refl U.vm), h4.2.2.2.2.1.moved (U := U.calling g mk v) (Vm.Alike.refl U.vm), h4.2.2.2.2.2.1.moved (U := U.calling g mk v) (Vm.Alike.refl U.vm), NG.same (u := U) (U := U.calling g mk v) rfl h4.2.2.2.2.2.2⟩
section R1
variable {p : Program} {l : Launch} {e : Env} {R : Room} {s : State} {m : MethodId} {args : Array Value} {below : List Frame} {meth : Method} {c : Code} {H : Heap} {locs : List Loc} {cells slots : Nat} {Q : State → Prop}
variable {cc : ByteArray} {pc nL : Nat} {ls : Array Slot} {rest : List Value} {E : EV} {a : Nat → Nat → Nat} {σ : HS} {own : String}
theorem r_get (C : Cx E p s m args meth c cc nL own) (hR : Rel E a σ H) (r i k : Nat) {v : Value} {index : Nat} (hi : lvS σ r i) (hr : r < 10) (hk : k < nfS r) (hs : slot a σ r i k = v) (hw : Cond.fieldLink own index (TTf r k).1 (TTf r k).2.1 (TTf r k).2.2.1 ∈ GW) (hdg : decode cc pc = .ok (.getfield index, 3))
    (kk : W p l e R s m args below meth c H locs cells slots Q (F0 m (pc + 3) ls (v :: rest))) : W p l e R s m args below meth c H locs cells slots Q (F0 m pc ls (.ref (a r i) :: rest)) := by
  have h0 := hR.1 r i hi
  unfold cellOK at h0
  rw [if_pos hr] at h0
  obtain ⟨cell, q1, q2, q3, q4⟩ := h0
  obtain ⟨hS, hfc, kC, hkC, hkind⟩ := C.2.2.2.2.2.2.1.1 r _ (vwCl_at r hr)
  obtain ⟨cf, kf, fi, f, hi2, hsl⟩ := hS k hk
  refine W.getf C.1 C.2.1 C.2.2.2.1 (C.2.2.2.2.1 _ hw) hi2 (u_facts hfc hkC (u_lays C.2.2.2.2.1 (uw_in hr) hk) hi2).1 q1 (by rw [q3]; exact fun h => by cases h) (v := v) ?_ rfl rfl hdg kk
  rw [hsl, q4 k hk, hs]
theorem r_recv (C : Cx E p s m args meth c cc nL own) (hR : Rel E a σ H) {r i : Nat} (hi : lvS σ r i) (hr : r < 10) : ∃ cell : Cell, H[a r i]? = some cell ∧ cell.vm.isStatics = false ∧ s.vm.findClass (RRf r) = some cell.cls := by
  have h0 := hR.1 r i hi
  unfold cellOK at h0
  rw [if_pos hr] at h0
  obtain ⟨cell, q1, q2, q3, q4⟩ := h0
  obtain ⟨hS, hfc, kC, hkC, hkind⟩ := C.2.2.2.2.2.2.1.1 r _ (vwCl_at r hr)
  exact ⟨cell, q1, by rw [q3]; rfl, by rw [q2]; exact hfc⟩
theorem r_put0 (C : Cx E p s m args meth c cc nL own) (hR : Rel E a σ H) (hS0 : va_S (AE E) s.heap H locs) (r i k : Nat) {v : Value} {ty : FieldType} {σ' : HS} {index : Nat} (hi : lvS σ r i) (hr : r < 10) (hk : k < nfS r) (hw : Cond.fieldLink own index (TTf r k).1 (TTf r k).2.1 (TTf r k).2.2.1 ∈ GW) (hfin : (TTf r k).2.2.2 = false) (hd : parseFieldDescriptor (TTf r k).2.2.1 = some ty) (hn : narrow ty v = v) (hfit : fits ty v = true) (hdg : decode cc pc = .ok (.putfield index, 3))
    (hself : slot a σ' r i = updV (slot a σ r i) k v) (hrel : ∀ H1 : Heap, cellOK E a σ' H1 r i → (∀ q, q ≠ a r i → H1[q]? = H[q]?) → Rel E a σ' H1)
    (kk : ∀ (H1 : Heap) (locs1 : List Loc), Rel E a σ' H1 → va_S (AE E) s.heap H1 locs1 → W p l e R s m args below meth c H1 locs1 cells slots Q (F0 m (pc + 3) ls rest)) : W p l e R s m args below meth c H locs cells slots Q (F0 m pc ls (v :: .ref (a r i) :: rest)) := by
  have hap := va_apart (own := own) C.2.2.2.2.1 (uw_in hr) (tyf r) (ty_all r hr) (nm_all r hr) C.2.2.2.2.2.2.1 (vwCl_at r hr)
  have h0 := hR.1 r i hi
  unfold cellOK at h0
  rw [if_pos hr] at h0
  obtain ⟨cell, q1, q2, q3, q4⟩ := h0
  obtain ⟨hS, hfc, kC, hkC, hkind⟩ := C.2.2.2.2.2.2.1.1 r _ (vwCl_at r hr)
  obtain ⟨cf, kf, fi, f, hi2, hsl⟩ := hS k hk
  have hlay := C.2.2.2.2.1 _ (ly_all r hr k hk)
  unfold u_lay at hlay
  rw [if_neg (by rw [hfin]; decide)] at hlay
  have hst := (u_facts hfc hkC (u_lays C.2.2.2.2.1 (uw_in hr) hk) hi2).1
  have h6 := u_store hfc hkC hkind hlay hi2 hd hn hfit
  refine W.putK C.1 C.2.1 (f := f) ⟨C.2.2.2.1, C.2.2.2.2.1 _ hw, ⟨_, _, _, hi2⟩, hst⟩ (by rw [q2]; exact h6) q1 q3 (by rw [hsl]; exact k2_hasslot (q4 k hk)) rfl rfl hdg fun H' e1 e2 e3 => ?_
  rw [hsl] at e1 ⊢
  refine kk H' _ (hrel H' ?_ e3) (hS0.put e2 e3 (hR.2.2.1 r i hi))
  unfold cellOK
  rw [if_pos hr, hself]
  exact ⟨_, e1, q2, q3, t_set q4 hap hk v⟩
/-- putfield of an int -/
theorem r_putI (C : Cx E p s m args meth c cc nL own) (hR : Rel E a σ H) (hS0 : va_S (AE E) s.heap H locs) (r i k : Nat) {v : Int32} {ty : FieldType} {index : Nat} (hi : lvS σ r i) (hr : r < 10) (hk : k < nfS r) (hs : ∀ σ : HS, slot a σ r i k = .int (gI σ r i k)) (hw : Cond.fieldLink own index (TTf r k).1 (TTf r k).2.1 (TTf r k).2.2.1 ∈ GW) (hfin : (TTf r k).2.2.2 = false) (hd : parseFieldDescriptor (TTf r k).2.2.1 = some ty) (hn : narrow ty (.int v) = .int v) (hfit : fits ty (.int v) = true) (hdg : decode cc pc = .ok (.putfield index, 3))
    (kk : ∀ (H1 : Heap) (locs1 : List Loc), Rel E a (wI σ r i k v) H1 → va_S (AE E) s.heap H1 locs1 → W p l e R s m args below meth c H1 locs1 cells slots Q (F0 m (pc + 3) ls rest)) : W p l e R s m args below meth c H locs cells slots Q (F0 m pc ls (.int v :: .ref (a r i) :: rest)) :=
  r_put0 C hR hS0 r i k (σ' := wI σ r i k v) hi hr hk hw hfin hd hn hfit hdg (slot_wI_eq hs) (fun H1 h1 h2 => hR.put rfl hi h1 h2 (fun r' i' h => slot_wI_ne h)) kk
theorem r_ald (C : Cx E p s m args meth c cc nL own) (hR : Rel E a σ H) (r i : Nat) {n k : Nat} {j : Int32} (hi : lvS σ r i) (hr : ¬ r < 10) (ha : akind r = 0) (hs : ∀ k, slot a σ r i k = .int (gI σ r i k)) (hl : lenS σ r i = n) (hc : ck n j = some k) (hdg : decode cc pc = .ok (.iaload, 1))
    (kk : W p l e R s m args below meth c H locs cells slots Q (F0 m (pc + 1) ls (.int (gI σ r i k) :: rest))) : W p l e R s m args below meth c H locs cells slots Q (F0 m pc ls (.int j :: .ref (a r i) :: rest)) := by
  have h0 := hR.1 r i hi
  unfold cellOK at h0
  rw [if_neg hr, hl, ha] at h0
  obtain ⟨hin, hk, hlt⟩ := ck_in hc
  refine W.iald (v := .int (gI σ r i k)) C.1 C.2.1 h0 ((C.2.2.2.2.2.2.1.2 0 (eC E 0, .int) rfl).1 n (slot a σ r i)) (fun q => by cases q) (by show ¬ (j < 0 ∨ (arrV _ _ _).slots.size ≤ _); rw [arrV_size]; exact hin) ?_ rfl rfl hdg kk
  show (arrV _ _ _).slots[_]? = _
  rw [← hk, arrV_read _ _ hlt, hs]
theorem r_lald (C : Cx E p s m args meth c cc nL own) (hR : Rel E a σ H) (r i : Nat) {n k : Nat} {j : Int32} (hi : lvS σ r i) (hr : ¬ r < 10) (ha : akind r = 1) (hs : ∀ k, slot a σ r i k = .long (gL σ r i k)) (hl : lenS σ r i = n) (hc : ck n j = some k) (hdg : decode cc pc = .ok (.laload, 1))
    (kk : W p l e R s m args below meth c H locs cells slots Q (F0 m (pc + 1) ls (.long (gL σ r i k) :: rest))) : W p l e R s m args below meth c H locs cells slots Q (F0 m pc ls (.int j :: .ref (a r i) :: rest)) := by
  have h0 := hR.1 r i hi
  unfold cellOK at h0
  rw [if_neg hr, hl, ha] at h0
  obtain ⟨hin, hk, hlt⟩ := ck_in hc
  refine W.lald (v := .long (gL σ r i k)) C.1 C.2.1 h0 ((C.2.2.2.2.2.2.1.2 1 (eC E 1, .long) rfl).1 n (slot a σ r i)) (fun q => by cases q) (by show ¬ (j < 0 ∨ (arrV _ _ _).slots.size ≤ _); rw [arrV_size]; exact hin) ?_ rfl rfl hdg kk
  show (arrV _ _ _).slots[_]? = _
  rw [← hk, arrV_read _ _ hlt, hs]
theorem r_aald (C : Cx E p s m args meth c cc nL own) (hR : Rel E a σ H) (r i t o t0 : Nat) {ty : FieldType} {n k : Nat} {j : Int32} (hi : lvS σ r i) (hr : ¬ r < 10) (ha : akind r = t0) (ht : (tysE E)[t0]? = some (eC E t0, ty)) (hty : ty.isReference = true) (hs : ∀ k, slot a σ r i k = .ref (a t (k + o))) (hl : lenS σ r i = n) (hc : ck n j = some k) (hdg : decode cc pc = .ok (.aaload, 1))
    (kk : W p l e R s m args below meth c H locs cells slots Q (F0 m (pc + 1) ls (.ref (a t (k + o)) :: rest))) : W p l e R s m args below meth c H locs cells slots Q (F0 m pc ls (.int j :: .ref (a r i) :: rest)) := by
  have h0 := hR.1 r i hi
  unfold cellOK at h0
  rw [if_neg hr, hl, ha] at h0
  obtain ⟨hin, hk, hlt⟩ := ck_in hc
  refine W.aald (v := .ref (a t (k + o))) C.1 C.2.1 h0 ((C.2.2.2.2.2.2.1.2 t0 (eC E t0, ty) ht).1 n (slot a σ r i)) hty (fun q => by cases q) (by show ¬ (j < 0 ∨ (arrV _ _ _).slots.size ≤ _); rw [arrV_size]; exact hin) ?_ rfl rfl hdg kk
  show (arrV _ _ _).slots[_]? = _
  rw [← hk, arrV_read _ _ hlt, hs]
theorem r_alen (C : Cx E p s m args meth c cc nL own) (hR : Rel E a σ H) (r i t0 : Nat) {ty : FieldType} {n : Nat} (hi : lvS σ r i) (hr : ¬ r < 10) (ha : akind r = t0) (ht : (tysE E)[t0]? = some (eC E t0, ty)) (hl : lenS σ r i = n) (hdg : decode cc pc = .ok (.arraylength, 1))
    (kk : W p l e R s m args below meth c H locs cells slots Q (F0 m (pc + 1) ls (.int n.toInt32 :: rest))) : W p l e R s m args below meth c H locs cells slots Q (F0 m pc ls (.ref (a r i) :: rest)) := by
  have h0 := hR.1 r i hi
  unfold cellOK at h0
  rw [if_neg hr, hl, ha] at h0
  exact W.alen C.1 C.2.1 h0 ((C.2.2.2.2.2.2.1.2 t0 (eC E t0, ty) ht).1 n (slot a σ r i)) (by rw [arrV_size]) rfl rfl hdg kk
theorem r_ast (C : Cx E p s m args meth c cc nL own) (hR : Rel E a σ H) (hS : va_S (AE E) s.heap H locs) (r i : Nat) {n k : Nat} {j x : Int32} (hi : lvS σ r i) (hr : ¬ r < 10) (ha : akind r = 0) (hs : ∀ (σ : HS) (k : Nat), slot a σ r i k = .int (gI σ r i k)) (hl : lenS σ r i = n) (hc : ck n j = some k) (hdg : decode cc pc = .ok (.iastore, 1))
    (kk : ∀ (H1 : Heap) (locs1 : List Loc), Rel E a (wI σ r i k x) H1 → va_S (AE E) s.heap H1 locs1 → W p l e R s m args below meth c H1 locs1 cells slots Q (F0 m (pc + 1) ls rest)) : W p l e R s m args below meth c H locs cells slots Q (F0 m pc ls (.int x :: .int j :: .ref (a r i) :: rest)) := by
  have h0 := hR.1 r i hi
  unfold cellOK at h0
  rw [if_neg hr] at h0
  obtain ⟨hin, hk, hlt⟩ := ck_in hc
  refine W.iast C.1 C.2.1 h0 (by rw [ha]; exact (C.2.2.2.2.2.2.1.2 0 (eC E 0, .int) rfl).1 _ (slot a σ r i)) (fun q => by cases q) (by show ¬ (j < 0 ∨ (arrV _ _ _).slots.size ≤ _); rw [arrV_size, hl]; exact hin) rfl rfl hdg fun H1 e1 e2 e3 => ?_
  refine kk H1 _ (hR.put rfl hi ?_ e3 (fun r' i' h => slot_wI_ne h)) (hS.put e2 e3 (hR.2.2.1 r i hi))
  unfold cellOK
  rw [if_neg hr, e1, arrV_store, ← hk, slot_wI_eq (fun σ => hs σ k)]
  rfl
theorem r_last (C : Cx E p s m args meth c cc nL own) (hR : Rel E a σ H) (hS : va_S (AE E) s.heap H locs) (r i : Nat) {n k : Nat} {j : Int32} {x : Int64} (hi : lvS σ r i) (hr : ¬ r < 10) (ha : akind r = 1) (hs : ∀ (σ : HS) (k : Nat), slot a σ r i k = .long (gL σ r i k)) (hl : lenS σ r i = n) (hc : ck n j = some k) (hdg : decode cc pc = .ok (.lastore, 1))
    (kk : ∀ (H1 : Heap) (locs1 : List Loc), Rel E a (wL σ r i k x) H1 → va_S (AE E) s.heap H1 locs1 → W p l e R s m args below meth c H1 locs1 cells slots Q (F0 m (pc + 1) ls rest)) : W p l e R s m args below meth c H locs cells slots Q (F0 m pc ls (.long x :: .int j :: .ref (a r i) :: rest)) := by
  have h0 := hR.1 r i hi
  unfold cellOK at h0
  rw [if_neg hr] at h0
  obtain ⟨hin, hk, hlt⟩ := ck_in hc
  refine W.last C.1 C.2.1 h0 (by rw [ha]; exact (C.2.2.2.2.2.2.1.2 1 (eC E 1, .long) rfl).1 _ (slot a σ r i)) (fun q => by cases q) (by show ¬ (j < 0 ∨ (arrV _ _ _).slots.size ≤ _); rw [arrV_size, hl]; exact hin) rfl rfl hdg fun H1 e1 e2 e3 => ?_
  refine kk H1 _ (hR.put rfl hi ?_ e3 (fun r' i' h => slot_wL_ne h)) (hS.put e2 e3 (hR.2.2.1 r i hi))
  unfold cellOK
  rw [if_neg hr, e1, arrV_store, ← hk, slot_wL_eq (fun σ => hs σ k)]
  rfl
end R1
