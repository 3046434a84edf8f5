theorem aw_int : Cond.arrayClass .int ∈ GW := gw_t 64 (by decide +kernel) (by decide +kernel)
theorem aw_long : Cond.arrayClass .long ∈ GW := gw_t 412 (by decide +kernel) (by decide +kernel)
/-! what changes the cells' addresses: a scene's two tables made anew, a local array of longs -/
def AG (a0 a : Nat → Nat → Nat) : Prop := ∀ r i, r ≠ 42 → r ≠ 43 → a r i = a0 r i
theorem AG.rf {a : Nat → Nat → Nat} : AG a a := fun _ _ _ _ => rfl
/-- a table made anew: zeros, of k places -/
def upA (a : Nat → Nat → Nat) (r i q : Nat) : Nat → Nat → Nat := fun r' i' => if r' = r ∧ i' = i then q else a r' i'
def QWe (E : EV) (a0 : Nat → Nat → Nat) (rv : Option Value) (σ' : HS) : Array Value → State → Outcome → State → Prop := fun _ st o t => o = .returned rv ∧ (∃ a', AG a0 a' ∧ Rel E a' σ' t.heap) ∧ va_F (AE E) st t
def CtE (l : Launch) (E : EV) (y : MethodName) (b : ByteArray) (mL : Nat) (ret : Option FieldType) (fr lo mc ms : Nat) (a : Nat → Nat → Nat) (σ : HS) (av : List Value) (rv : Option Value) (σ' : HS) : Prop :=
  Met l y (Cond.code y b mL ret :: GW) { frames := fr, cells := mc, slots := ms, locals := lo } (va_Pc av (PW E a σ)) (QWe E a rv σ') mc ms (AE E)
def QXe (E : EV) (a0 : Nat → Nat → Nat) (k : Nat) (rv : Option Value) (σ' : HS) : Array Value → State → Outcome → State → Prop := fun x st o t => k = 0 ∧ QWe E a0 rv σ' x st o t
def XWe (E : EV) (a0 : Nat → Nat → Nat) (k : Nat) (σ' : HS) : String → State → State → Prop := fun cls st t => k ≠ 0 ∧ cls = xcl k ∧ (∃ a', AG a0 a' ∧ Rel E a' σ' t.heap) ∧ va_F (AE E) st t
def CtXE (l : Launch) (E : EV) (y : MethodName) (b : ByteArray) (mL : Nat) (ret : Option FieldType) (fr lo mc ms : Nat) (a : Nat → Nat → Nat) (σ : HS) (av : List Value) (k : Nat) (rv : Option Value) (σ' : HS) : Prop :=
  vx_Met l y (Cond.code y b mL ret :: GW) { frames := fr, cells := mc, slots := ms, locals := lo } (va_Pc av (PW E a σ)) (QXe E a k rv σ') (XWe E a k σ') mc ms (AE E)
theorem CtE.start {l : Launch} {E : EV} {y : MethodName} {b : ByteArray} {mL : Nat} {ret : Option FieldType} {fr lo mc ms : Nat} {a : Nat → Nat → Nat} {σ : HS} {av : List Value} {rv : Option Value} {σ' : HS} (hy : plainName y.cls = true) (hn : (lg_sl av).length ≤ mL)
    (body : ∀ (p : Program) (e : Env) (s : State) (m : MethodId) (args : Array Value) (below : List Frame) (meth : Method) (c : Code) (ls : Array Slot), Cx E p s m args meth c b mL y.cls → meth.sig.returnType = ret → Rel E a σ s.heap → va_S (AE E) s.heap s.heap [] → lv_has ls mL (lv_args 0 av) →
      W p l e { frames := fr, cells := mc, slots := ms, locals := lo } s m args below meth c s.heap [] 0 0 (MQ below (QWe E a rv σ') args s mc ms (AE E)) (F0 m 0 ls [])) : CtE l E y b mL ret fr lo mc ms a σ av rv σ' := by
  refine Met.ofW (cc := b) (maxL := mL) (ret := ret) hy rfl ?_
  intro p e s m args below meth c s₁ B hml hv
  obtain ⟨rfl, hR, hK, hKS, hsz⟩ := hv
  have hts := atoms_spec (ws := Cond.code y b mL ret :: GW) B.pre
  have C : Cx E p s m av.toArray meth c b mL y.cls := ⟨B.exec, B.bytes, hml, findClass_of_methodNamed B.named, fun w h => hts w (List.mem_cons_of_mem _ h), B.notSynchronized, hK, hKS, hsz⟩
  have hl := lv_entry av (n := mL) hn
  rw [lg_entry_eq]
  generalize (lg_sl av ++ List.replicate (mL - (lg_sl av).length) Slot.unset).toArray = ls at hl ⊢
  exact body p e s m _ below meth c ls C B.returns hR va_S.rf hl
theorem CtXE.start {l : Launch} {E : EV} {y : MethodName} {b : ByteArray} {mL : Nat} {ret : Option FieldType} {fr lo mc ms : Nat} {a : Nat → Nat → Nat} {σ : HS} {av : List Value} {k : Nat} {rv : Option Value} {σ' : HS} (hy : plainName y.cls = true) (hn : (lg_sl av).length ≤ mL)
    (body : ∀ (p : Program) (e : Env) (s : State) (m : MethodId) (args : Array Value) (below : List Frame) (meth : Method) (c : Code) (ls : Array Slot), (∀ x ∈ c.exceptionTable.toList, False) → Cx E p s m args meth c b mL y.cls → meth.sig.returnType = ret → Rel E a σ s.heap → va_S (AE E) s.heap s.heap [] → lv_has ls mL (lv_args 0 av) →
      W p l e { frames := fr, cells := mc, slots := ms, locals := lo } s m args below meth c s.heap [] 0 0 (vx_MQ below (QXe E a k rv σ') (XWe E a k σ') args s mc ms (AE E)) (F0 m 0 ls [])) : CtXE l E y b mL ret fr lo mc ms a σ av k rv σ' := by
  refine vx_ofW (cc := b) (maxL := mL) (ret := ret) hy rfl ?_
  intro p e s m args below meth c s₁ B hml hT hv
  obtain ⟨rfl, hR, hK, hKS, hsz⟩ := hv
  have hts := atoms_spec (ws := Cond.code y b mL ret :: GW) B.pre
  have C : Cx E p s m av.toArray meth c b mL y.cls := ⟨B.exec, B.bytes, hml, findClass_of_methodNamed B.named, fun w h => hts w (List.mem_cons_of_mem _ h), B.notSynchronized, hK, hKS, hsz⟩
  have hl := lv_entry av (n := mL) hn
  rw [lg_entry_eq]
  generalize (lg_sl av ++ List.replicate (mL - (lg_sl av).length) Slot.unset).toArray = ls at hl ⊢
  exact body p e s m _ below meth c ls hT C B.returns hR va_S.rf hl
theorem Rel.lt {E : EV} {a : Nat → Nat → Nat} {σ : HS} {H : Heap} (h : Rel E a σ H) {r i : Nat} (hl : lvS σ r i) : a r i < H.size := by
  have h0 := h.1 r i hl
  unfold cellOK at h0
  by_cases hr : r < 10
  · rw [if_pos hr] at h0
    obtain ⟨cell, q1, -⟩ := h0
    exact (Array.getElem?_eq_some_iff.mp q1).1
  · rw [if_neg hr] at h0
    exact (Array.getElem?_eq_some_iff.mp h0).1
theorem getD_or {l : List Nat} {k : Nat} : l.getD k 0 = 0 ∨ l.getD k 0 ∈ l := by
  by_cases h : k < l.length
  · exact Or.inr (by rw [List.getD_eq_getElem?_getD, List.getElem?_eq_getElem h]; exact List.getElem_mem h)
  · exact Or.inl (by rw [List.getD_eq_getElem?_getD, List.getElem?_eq_none (by omega)]; rfl)
theorem fc_no : ∀ r, r < 10 → r ≠ 3 → ∀ c ∈ ftabL.getD r [], c ≠ 43 ∧ c ≠ 44 := by decide
theorem fc_3 : ∀ k, k ≠ 12 → k ≠ 13 → fcode 3 k ≠ 43 ∧ fcode 3 k ≠ 44 := by
  intro k h1 h2
  by_cases h : k < 14
  · have : ∀ k, k < 14 → k ≠ 12 → k ≠ 13 → fcode 3 k ≠ 43 ∧ fcode 3 k ≠ 44 := by decide
    exact this k h h1 h2
  · have e : fcode 3 k = 0 := by
      unfold fcode
      rw [List.getD_eq_getElem?_getD, List.getElem?_eq_none (show (ftabL.getD 3 []).length ≤ k by have z : (ftabL.getD 3 []).length = 14 := rfl; omega)]
      rfl
    rw [e]; decide
theorem fc_ne {r k : Nat} (h : r < 10) (h3 : r ≠ 3) : fcode r k ≠ 43 ∧ fcode r k ≠ 44 := by
  rcases (getD_or : (ftabL.getD r []).getD k 0 = 0 ∨ _) with e | e
  · unfold fcode; rw [e]; decide
  · exact fc_no r h h3 _ e
theorem ac_no : ∀ c ∈ acodeL, c ≠ 44 ∧ c ≠ 45 ∧ c ≠ 93 := by decide
theorem ac_ne {r : Nat} : acode r ≠ 44 ∧ acode r ≠ 45 ∧ acode r ≠ 93 := by
  rcases (getD_or : acodeL.getD r 0 = 0 ∨ _) with e | e
  · unfold acode; rw [e]; decide
  · exact ac_no _ e
theorem ridx_wN {σ : HS} {r i d k r' i' j : Nat} (hd : 3 ≤ d) : ridx (wN σ r i d k) r' i' j = ridx σ r' i' j := by
  have e0 : gR (wN σ r i d k) 0 = gR σ 0 := by rw [gR_wN, if_neg (by omega)]
  have e1 : gR (wN σ r i d k) 1 = gR σ 1 := by rw [gR_wN, if_neg (by omega)]
  have e2 : gR (wN σ r i d k) 2 = gR σ 2 := by rw [gR_wN, if_neg (by omega)]
  unfold ridx
  rw [e0, e1, e2]
theorem slot_N42_ne {a : Nat → Nat → Nat} {σ : HS} {i q k r' i' : Nat} (h : ¬ (r' = 3 ∧ i' = i)) (h2 : ¬ (r' = 42 ∧ i' = i)) : slot (upA a 42 i q) (wN σ 42 i 3 k) r' i' = slot a σ r' i' := by
  funext j
  unfold slot
  rw [gI_wN, if_neg h2, ridx_wN (by decide)]
  by_cases hr : r' < 10
  · rw [if_pos hr, if_pos hr]
    split
    · rfl
    · rename_i t ht
      have e : upA a 42 i q t (ridx σ r' i' j) = a t (ridx σ r' i' j) := by
        unfold upA
        refine if_neg fun z => ?_
        by_cases h3 : r' = 3
        · subst h3
          have e2 : ridx σ 3 i' j = i' := by unfold ridx; simp
          exact h ⟨rfl, by rw [← e2]; exact z.2⟩
        · have := (fc_ne (k := j) hr h3); omega
      rw [e]
  · rw [if_neg hr, if_neg hr]
    split
    · rfl
    · rfl
    · rename_i t ht
      have e : upA a 42 i q t (j + roff r') = a t (j + roff r') := by
        unfold upA
        refine if_neg fun z => ?_
        have := (ac_ne (r := r')); omega
      rw [e]
theorem slot_N42_3 {a : Nat → Nat → Nat} {σ : HS} {i q k : Nat} : slot (upA a 42 i q) (wN σ 42 i 3 k) 3 i = updV (slot a σ 3 i) 12 (.ref q) := by
  funext j
  by_cases hj : j = 12
  · subst hj
    show Value.ref (upA a 42 i q 42 i) = updV (slot a σ 3 i) 12 (.ref q) 12
    simp [updV, upA]
  · have e2 : updV (slot a σ 3 i) 12 (.ref q) j = slot a σ 3 i j := by simp [updV, hj]
    rw [e2]
    have eI : gI (wN σ 42 i 3 k) 3 i j = gI σ 3 i j := by rw [gI_wN, if_neg (by omega)]
    unfold slot
    rw [eI, ridx_wN (by decide), if_pos (by decide), if_pos (by decide)]
    split
    · rfl
    · rename_i t ht
      have e : upA a 42 i q t (ridx σ 3 i j) = a t (ridx σ 3 i j) := by
        unfold upA
        refine if_neg fun z => ?_
        by_cases h13 : j = 13
        · subst h13
          have : fcode 3 13 = 44 := rfl
          omega
        · have := fc_3 j (by omega) (by omega); omega
      rw [e]
theorem Rel.new42 {E : EV} {a : Nat → Nat → Nat} {σ : HS} {H H2 : Heap} {i q k : Nat} (h : Rel E a σ H) (hi : i < cntS 3) (hq : H.size ≤ q) (hb : eB E ≤ q) (h3 : cellOK E (upA a 42 i q) (wN σ 42 i 3 k) H2 3 i) (hn : H2[q]? = some (arrV (eC E 0) k (fun _ => .int 0))) (ho : ∀ z, z < H.size → z ≠ a 3 i → H2[z]? = H[z]?) : Rel E (upA a 42 i q) (wN σ 42 i 3 k) H2 := by
  have hlv : ∀ r' i', lvS (wN σ 42 i 3 k) r' i' → lvS σ r' i' := fun r' i' z => ⟨z.1, fun y => by have := z.2 y; rw [gR_wN, if_neg (by have e : cntS 3 = 7 := rfl; omega)] at this; exact this⟩
  have hup : ∀ r' i', ¬ (r' = 42 ∧ i' = i) → upA a 42 i q r' i' = a r' i' := fun r' i' z => if_neg z
  have hself : upA a 42 i q 42 i = q := if_pos ⟨rfl, rfl⟩
  refine ⟨fun r' i' hl => ?_, fun r1 i1 r2 i2 h1 h2 he => ?_, fun r' i' hl => ?_, ?_⟩
  · by_cases c1 : r' = 3 ∧ i' = i
    · obtain ⟨rfl, rfl⟩ := c1
      exact h3
    · by_cases c2 : r' = 42 ∧ i' = i
      · obtain ⟨rfl, rfl⟩ := c2
        unfold cellOK
        rw [if_neg (by decide), hself, hn]
        have e1 : lenS (wN σ 42 i' 3 k) 42 i' = k := by unfold lenS; simp [gR_wN]
        rw [e1]
        refine congrArg some (arrV_ext fun j _ => ?_)
        show Value.int 0 = Value.int (gI (wN σ 42 i' 3 k) 42 i' j)
        rw [gI_wN, if_pos ⟨rfl, rfl⟩]
      · have h0 := h.1 r' i' (hlv _ _ hl)
        have hne : a r' i' ≠ a 3 i := fun z => c1 (h.2.1 r' i' 3 i (hlv _ _ hl) (lv0 hi (by decide)) z)
        have hlt := h.lt (hlv _ _ hl)
        have h1 := h0.kept (ho _ hlt hne)
        unfold cellOK at h1 ⊢
        rw [slot_N42_ne c1 c2, hup _ _ c2]
        have e1 : lenS (wN σ 42 i 3 k) r' i' = lenS σ r' i' := by
          have q1 := hl.1
          unfold lenS
          by_cases h42 : r' = 42
          · subst h42
            rw [if_pos rfl, if_pos rfl, gR_wN, if_neg (by have e : cntS 42 = 7 := rfl; have e' : cntS 3 = 7 := rfl; omega)]
          · by_cases h43 : r' = 43
            · subst h43
              rw [if_neg (by decide), if_pos rfl, if_neg (by decide), if_pos rfl, gR_wN, if_neg (by have e : cntS 43 = 7 := rfl; have e' : cntS 3 = 7 := rfl; omega)]
            · rw [if_neg h42, if_neg h43, if_neg h42, if_neg h43]
        rw [e1]
        exact h1
  · by_cases c1 : r1 = 42 ∧ i1 = i
    · by_cases c2 : r2 = 42 ∧ i2 = i
      · exact ⟨c1.1.trans c2.1.symm, c1.2.trans c2.2.symm⟩
      · rw [hup _ _ c2, c1.1, c1.2, hself] at he
        have := h.lt (hlv _ _ h2); omega
    · by_cases c2 : r2 = 42 ∧ i2 = i
      · rw [hup _ _ c1, c2.1, c2.2, hself] at he
        have := h.lt (hlv _ _ h1); omega
      · rw [hup _ _ c1, hup _ _ c2] at he
        exact h.2.1 _ _ _ _ (hlv _ _ h1) (hlv _ _ h2) he
  · by_cases c2 : r' = 42 ∧ i' = i
    · rw [c2.1, c2.2, hself]; exact hb
    · rw [hup _ _ c2]; exact h.2.2.1 _ _ (hlv _ _ hl)
  · have e0 : gR (wN σ 42 i 3 k) 0 = gR σ 0 := by rw [gR_wN, if_neg (by omega)]
    have e1 : gR (wN σ 42 i 3 k) 1 = gR σ 1 := by rw [gR_wN, if_neg (by omega)]
    have e2 : gR (wN σ 42 i 3 k) 2 = gR σ 2 := by rw [gR_wN, if_neg (by omega)]
    rw [e0, e1, e2]
    exact h.2.2.2
theorem slot_N43_ne {a : Nat → Nat → Nat} {σ : HS} {i q k r' i' : Nat} (h : ¬ (r' = 3 ∧ i' = i)) (h2 : ¬ (r' = 43 ∧ i' = i)) : slot (upA a 43 i q) (wN σ 43 i 10 k) r' i' = slot a σ r' i' := by
  funext j
  unfold slot
  rw [gI_wN, if_neg h2, ridx_wN (by decide)]
  by_cases hr : r' < 10
  · rw [if_pos hr, if_pos hr]
    split
    · rfl
    · rename_i t ht
      have e : upA a 43 i q t (ridx σ r' i' j) = a t (ridx σ r' i' j) := by
        unfold upA
        refine if_neg fun z => ?_
        by_cases h3 : r' = 3
        · subst h3
          have e2 : ridx σ 3 i' j = i' := by unfold ridx; simp
          exact h ⟨rfl, by rw [← e2]; exact z.2⟩
        · have := (fc_ne (k := j) hr h3); omega
      rw [e]
  · rw [if_neg hr, if_neg hr]
    split
    · rfl
    · rfl
    · rename_i t ht
      have e : upA a 43 i q t (j + roff r') = a t (j + roff r') := by
        unfold upA
        refine if_neg fun z => ?_
        have := (ac_ne (r := r')); omega
      rw [e]
theorem slot_N43_3 {a : Nat → Nat → Nat} {σ : HS} {i q k : Nat} : slot (upA a 43 i q) (wN σ 43 i 10 k) 3 i = updV (slot a σ 3 i) 13 (.ref q) := by
  funext j
  by_cases hj : j = 13
  · subst hj
    show Value.ref (upA a 43 i q 43 i) = updV (slot a σ 3 i) 13 (.ref q) 13
    simp [updV, upA]
  · have e2 : updV (slot a σ 3 i) 13 (.ref q) j = slot a σ 3 i j := by simp [updV, hj]
    rw [e2]
    have eI : gI (wN σ 43 i 10 k) 3 i j = gI σ 3 i j := by rw [gI_wN, if_neg (by omega)]
    unfold slot
    rw [eI, ridx_wN (by decide), if_pos (by decide), if_pos (by decide)]
    split
    · rfl
    · rename_i t ht
      have e : upA a 43 i q t (ridx σ 3 i j) = a t (ridx σ 3 i j) := by
        unfold upA
        refine if_neg fun z => ?_
        by_cases h13 : j = 12
        · subst h13
          have : fcode 3 12 = 43 := rfl
          omega
        · have := fc_3 j (by omega) (by omega); omega
      rw [e]
theorem Rel.new43 {E : EV} {a : Nat → Nat → Nat} {σ : HS} {H H2 : Heap} {i q k : Nat} (h : Rel E a σ H) (hi : i < cntS 3) (hq : H.size ≤ q) (hb : eB E ≤ q) (h3 : cellOK E (upA a 43 i q) (wN σ 43 i 10 k) H2 3 i) (hn : H2[q]? = some (arrV (eC E 0) k (fun _ => .int 0))) (ho : ∀ z, z < H.size → z ≠ a 3 i → H2[z]? = H[z]?) : Rel E (upA a 43 i q) (wN σ 43 i 10 k) H2 := by
  have hlv : ∀ r' i', lvS (wN σ 43 i 10 k) r' i' → lvS σ r' i' := fun r' i' z => ⟨z.1, fun y => by have := z.2 y; rw [gR_wN, if_neg (by have e : cntS 3 = 7 := rfl; omega)] at this; exact this⟩
  have hup : ∀ r' i', ¬ (r' = 43 ∧ i' = i) → upA a 43 i q r' i' = a r' i' := fun r' i' z => if_neg z
  have hself : upA a 43 i q 43 i = q := if_pos ⟨rfl, rfl⟩
  refine ⟨fun r' i' hl => ?_, fun r1 i1 r2 i2 h1 h2 he => ?_, fun r' i' hl => ?_, ?_⟩
  · by_cases c1 : r' = 3 ∧ i' = i
    · obtain ⟨rfl, rfl⟩ := c1
      exact h3
    · by_cases c2 : r' = 43 ∧ i' = i
      · obtain ⟨rfl, rfl⟩ := c2
        unfold cellOK
        rw [if_neg (by decide), hself, hn]
        have e1 : lenS (wN σ 43 i' 10 k) 43 i' = k := by unfold lenS; simp [gR_wN]
        rw [e1]
        refine congrArg some (arrV_ext fun j _ => ?_)
        show Value.int 0 = Value.int (gI (wN σ 43 i' 10 k) 43 i' j)
        rw [gI_wN, if_pos ⟨rfl, rfl⟩]
      · have h0 := h.1 r' i' (hlv _ _ hl)
        have hne : a r' i' ≠ a 3 i := fun z => c1 (h.2.1 r' i' 3 i (hlv _ _ hl) (lv0 hi (by decide)) z)
        have hlt := h.lt (hlv _ _ hl)
        have h1 := h0.kept (ho _ hlt hne)
        unfold cellOK at h1 ⊢
        rw [slot_N43_ne c1 c2, hup _ _ c2]
        have e1 : lenS (wN σ 43 i 10 k) r' i' = lenS σ r' i' := by
          have q1 := hl.1
          unfold lenS
          by_cases h42 : r' = 42
          · subst h42
            rw [if_pos rfl, if_pos rfl, gR_wN, if_neg (by have e : cntS 42 = 7 := rfl; have e' : cntS 3 = 7 := rfl; omega)]
          · by_cases h43 : r' = 43
            · subst h43
              rw [if_neg (by decide), if_pos rfl, if_neg (by decide), if_pos rfl, gR_wN, if_neg (by have e : cntS 43 = 7 := rfl; have e' : cntS 3 = 7 := rfl; omega)]
            · rw [if_neg h42, if_neg h43, if_neg h42, if_neg h43]
        rw [e1]
        exact h1
  · by_cases c1 : r1 = 43 ∧ i1 = i
    · by_cases c2 : r2 = 43 ∧ i2 = i
      · exact ⟨c1.1.trans c2.1.symm, c1.2.trans c2.2.symm⟩
      · rw [hup _ _ c2, c1.1, c1.2, hself] at he
        have := h.lt (hlv _ _ h2); omega
    · by_cases c2 : r2 = 43 ∧ i2 = i
      · rw [hup _ _ c1, c2.1, c2.2, hself] at he
        have := h.lt (hlv _ _ h1); omega
      · rw [hup _ _ c1, hup _ _ c2] at he
        exact h.2.1 _ _ _ _ (hlv _ _ h1) (hlv _ _ h2) he
  · by_cases c2 : r' = 43 ∧ i' = i
    · rw [c2.1, c2.2, hself]; exact hb
    · rw [hup _ _ c2]; exact h.2.2.1 _ _ (hlv _ _ hl)
  · have e0 : gR (wN σ 43 i 10 k) 0 = gR σ 0 := by rw [gR_wN, if_neg (by omega)]
    have e1 : gR (wN σ 43 i 10 k) 1 = gR σ 1 := by rw [gR_wN, if_neg (by omega)]
    have e2 : gR (wN σ 43 i 10 k) 2 = gR σ 2 := by rw [gR_wN, if_neg (by omega)]
    rw [e0, e1, e2]
    exact h.2.2.2
section R6
variable {p : Program} {l : Launch} {e : Env} {R : Room} {s : State} {m : MethodId} {args : Array Value} {below : List Frame} {meth : Method} {c : Code} {H : Heap} {locs : List Loc} {cells slots mc ms : Nat} {Q : State → Prop}
variable {cc : ByteArray} {pc nL : Nat} {ls : Array Slot} {rest : List Value} {E : EV} {a a0 : Nat → Nat → Nat} {σ : HS} {own : String}
theorem e_vretE (hAG : AG a0 a) (C : Cx E p s m args meth c cc nL own) (hr : meth.sig.returnType = none) (hR : Rel E a σ H) (hS : va_S (AE E) s.heap H locs) (hc : cells ≤ mc) (hs : slots ≤ ms) (hdg : decode cc pc = .ok (.return_, 1)) : W p l e R s m args below meth c H locs cells slots (MQ below (QWe E a0 none σ) args s mc ms (AE E)) (F0 m pc ls []) := by
  refine W.widen (k := mc) (n := ms) hc hs ?_
  exact W.vret C.1 C.2.1 hr (fun t ht hW => ⟨rfl, ⟨a, hAG, by rw [ht]; exact hR⟩, hS.F ht⟩) hS.2.2 hdg C.2.2.2.2.2.1
theorem e_iretE {v : Int32} (hAG : AG a0 a) (C : Cx E p s m args meth c cc nL own) (hr : meth.sig.returnType = some .int) (hR : Rel E a σ H) (hS : va_S (AE E) s.heap H locs) (hc : cells ≤ mc) (hs : slots ≤ ms) (hdg : decode cc pc = .ok (.ireturn, 1)) : W p l e R s m args below meth c H locs cells slots (MQ below (QWe E a0 (some (.int v)) σ) args s mc ms (AE E)) (F0 m pc ls [.int v]) := by
  refine W.widen (k := mc) (n := ms) hc hs ?_
  exact W.iret C.1 C.2.1 hr (fun t ht hW => ⟨rfl, ⟨a, hAG, by rw [ht]; exact hR⟩, hS.F ht⟩) hS.2.2 hdg C.2.2.2.2.2.1
theorem x_retE {g : JFrame} {rv : Option Value} {XC : String → State → State → Prop} (k : W p l e R s m args below meth c H locs cells slots (MQ below (QWe E a0 rv σ) args s mc ms (AE E)) g) : W p l e R s m args below meth c H locs cells slots (vx_MQ below (QXe E a0 0 rv σ) XC args s mc ms (AE E)) g := by
  intro T hT X
  obtain ⟨t, a1, o, b1, b2, b3, b4⟩ := k T hT X
  exact ⟨t, a1, o, b1, b2, Or.inl ⟨⟨rfl, b3⟩, b4⟩⟩
theorem xmono {k : Nat} {Qc : Array Value → State → Outcome → State → Prop} (hAG : AG a0 a) {t : State} (h : vx_MQ below Qc (XW E a k σ) args s mc ms (AE E) t) : vx_MQ below Qc (XWe E a0 k σ) args s mc ms (AE E) t := by
  obtain ⟨o, h1, h2, h3⟩ := h
  refine ⟨o, h1, h2, ?_⟩
  rcases h3 with h3 | ⟨q, e1, E9, ce, L, hx, hrest⟩
  · exact Or.inl h3
  · exact Or.inr ⟨q, e1, E9, ce, L, ⟨hx.1, hx.2.1, ⟨a, hAG, hx.2.2.1⟩, hx.2.2.2⟩, hrest⟩
theorem r_callVE {y : MethodName} {b' : ByteArray} {mL' fr lo r i index n : Nat} {ret' : Option FieldType} {As : List Value} {σ' : HS} {st : List Value} (C : Cx E p s m args meth c cc nL own) (hAG : AG a0 a) (hM : CtE l E y b' mL' ret' fr lo mc ms a σ (.ref (a r i) :: As) none σ') (hR : Rel E a σ H) (hS : va_S (AE E) s.heap H locs) (hi : lvS σ r i) (hr : r < 10) (hw : Cond.methodLink own index y ∈ GW) (hy : MW y (RRf r) b' mL' ret' n) (hn : As.length = n)
    (hf : fr + 1 ≤ R.frames ∧ 8 + (mL' + 11) + lo ≤ R.locals ∧ cells + mc ≤ R.cells ∧ slots + ms ≤ R.slots) (hl : ls.size = nL) (hst : st = As.reverse ++ .ref (a r i) :: rest) (hq : (rest.map fun v => v.category).sum ≤ 8) (hdg : decode cc pc = .ok (.invokevirtual index, 3))
    (kk : ∀ (a' : Nat → Nat → Nat) (H1 : Heap) (locs1 : List Loc), AG a0 a' → AG a a' → Rel E a' σ' H1 → va_S (AE E) s.heap H1 locs1 → W p l e R s m args below meth c H1 locs1 (cells + mc) (slots + ms) Q (F0 m (pc + 3) ls rest)) : W p l e R s m args below meth c H locs cells slots Q (F0 m pc ls st) := by
  have run := va_runV (p := p) (e := e) (R := R) (below := below) (meth := meth) (locs := locs) (cells := cells) (slots := slots) (H := H) (As := As) (rest := rest) (Ts := GW) (own := own) (C := RRf r) (b := a r i) (nL := nL) (n := n) (g := F0 m pc ls st) ⟨C.1, C.2.1, C.2.2.1, C.2.2.2.1, C.2.2.2.2.1⟩ hM (cwV n C.2.2.2.2.1 (gw_goodIn (by
    intro w hw'
    unfold wsV at hw'
    simp only [List.cons_append, List.nil_append, List.mem_cons] at hw'
    rcases hw' with h | h | h | h | h | h
    · rw [h]; exact hw
    · rw [h]; exact hy.2.1
    · rw [h]; exact hy.2.2.1
    · rw [h]; exact hy.2.2.2.1
    · rw [h]; exact hy.2.2.2.2
    · exact h)) rfl rfl rfl hy.1 ⟨hf.1, hf.2.1⟩) ⟨PW.blind, r_recv C hR hi hr, fun U hU hW => ⟨rfl, pw_at C hR hS hU hW⟩⟩ rfl hn hl hst (lv_room hq) hdg hf.2.2
  intro T hT X
  obtain ⟨v, st₀, t, T', L, h0, X', hL, e1, e2, ⟨hv, ⟨a', hag, hRel⟩, hz, hk⟩, st1⟩ := run T hT X
  cases hv
  rw [h0] at hz hk
  obtain ⟨t2, a1, b1⟩ := kk a' T'.heap (locs ++ L) (fun r i h1 h2 => (hag r i h1 h2).trans (hAG r i h1 h2)) hag (by rw [e1]; exact hRel)
    ⟨Nat.le_trans hS.1 (by rw [e1]; exact hz), fun q h1 h2 => by rw [e1, hk q (Nat.lt_of_lt_of_le h1 hS.1) h2]; exact hS.2.1 q h1 h2, fun q hq => by
      rcases List.mem_append.mp hq with h | h
      · exact hS.2.2 q h
      · exact hL q h⟩ T' rfl X'
  exact ⟨t2, st1 t2 a1, b1⟩
theorem r_new42 {i index k : Nat} {n : Int32} (hAG : AG a0 a) (C : Cx E p s m args meth c cc nL own) (hR : Rel E a σ H) (hS : va_S (AE E) s.heap H locs) (hi : i < cntS 3) (hk : nw 2400 n = some k) (hc : cells + 1 ≤ R.cells) (hs : slots + 2400 ≤ R.slots) (hw : Cond.fieldLink own index (TTf 3 12).1 (TTf 3 12).2.1 (TTf 3 12).2.2.1 ∈ GW) (hd : decode cc pc = .ok (.newarray .int, 2)) (hd2 : decode cc (pc + 2) = .ok (.putfield index, 3))
    (kk : ∀ (a' : Nat → Nat → Nat) (H1 : Heap) (locs1 : List Loc), AG a0 a' → AG a a' → Rel E a' (wN σ 42 i 3 k) H1 → va_S (AE E) s.heap H1 locs1 → W p l e R s m args below meth c H1 locs1 (cells + 1) (slots + 2400) Q (F0 m (pc + 5) ls rest)) : W p l e R s m args below meth c H locs cells slots Q (F0 m pc ls (.int n :: .ref (a 3 i) :: rest)) := by
  obtain ⟨h1, h2, h3⟩ := nw_in hk
  refine va_newaK C.1 C.2.1 (atype := .int) (C.2.2.2.2.1 _ aw_int) rfl hd rfl h1 h2 (by show k * 4 ≤ _; omega) hc (by omega) rfl fun H1 cA e1 z1 o1 hAr hNm => ?_
  have hcA : cA = eC E 0 := Option.some.inj (hNm.symm.trans (C.2.2.2.2.2.2.1.2 0 (eC E 0, .int) rfl).2)
  subst hcA
  refine W.widen (k := cells + 1) (n := slots + 2400) (Nat.le_refl _) (by omega) ?_
  have hR1 : Rel E a σ H1 := hR.mono o1
  have hb : eB E ≤ H.size := Nat.le_trans C.2.2.2.2.2.2.2.2 hS.1
  have hS1 : va_S (AE E) s.heap H1 locs := ⟨Nat.le_trans hS.1 (by omega), fun q g1 g2 => (o1 q (Nat.lt_of_lt_of_le g1 hS.1)).trans (hS.2.1 q g1 g2), hS.2.2⟩
  have hap := va_apart (own := own) C.2.2.2.2.1 (uw_in (r := 3) (by decide)) (tyf 3) (ty_all 3 (by decide)) (nm_all 3 (by decide)) C.2.2.2.2.2.2.1 (vwCl_at 3 (by decide))
  have h0 := hR1.1 3 i (lv0 hi (by decide))
  unfold cellOK at h0
  rw [if_pos (by decide)] at h0
  obtain ⟨cell, q1, q2, q3, q4⟩ := h0
  obtain ⟨hSl, hfc, kC, hkC, hkind⟩ := C.2.2.2.2.2.2.1.1 3 _ (vwCl_at 3 (by decide))
  obtain ⟨cf, kf, fi, f, hi2, hsl⟩ := hSl 12 (by decide)
  have hlay := C.2.2.2.2.1 _ (ly_all 3 (by decide) 12 (by decide))
  unfold u_lay at hlay
  rw [if_neg (by decide)] at hlay
  have hst := (u_facts hfc hkC (u_lays C.2.2.2.2.1 (uw_in (r := 3) (by decide)) (k := 12) (by decide)) hi2).1
  have h6 := u_store (ty := .array .int) (v := .ref H.size) hfc hkC hkind hlay hi2 (by decide +kernel) rfl rfl
  refine W.putK C.1 C.2.1 (f := f) ⟨C.2.2.2.1, C.2.2.2.2.1 _ hw, ⟨_, _, _, hi2⟩, hst⟩ (by rw [q2]; exact h6) q1 q3 (by rw [hsl]; exact k2_hasslot (q4 12 (by decide))) rfl rfl hd2 fun H2 f1 f2 f3 => ?_
  rw [hsl] at f1 ⊢
  have hlt := hR.lt (lv0 (σ := σ) hi (show ¬ (3 : Nat) = 91 by decide))
  refine kk (upA a 42 i H.size) H2 _ (fun r' i' g1 g2 => ?_) (fun r' i' g1 g2 => ?_) (hR.new42 hi (Nat.le_refl _) hb ?_ ?_ ?_) (hS1.put f2 f3 (hR.2.2.1 3 i (lv0 hi (by decide))))
  · have e : upA a 42 i H.size r' i' = a r' i' := if_neg (by omega)
    rw [e]; exact hAG r' i' g1 g2
  · exact if_neg (by omega)
  · unfold cellOK
    rw [if_pos (by decide), slot_N42_3]
    have e : upA a 42 i H.size 3 i = a 3 i := if_neg (by omega)
    rw [e]
    exact ⟨_, f1, q2, q3, t_set q4 hap (by decide) _⟩
  · rw [f3 H.size (Nat.ne_of_gt hlt), e1]
    rfl
  · intro z g1 g2
    rw [f3 z g2, o1 z g1]
theorem r_new43 {i index k : Nat} {n : Int32} (hAG : AG a0 a) (C : Cx E p s m args meth c cc nL own) (hR : Rel E a σ H) (hS : va_S (AE E) s.heap H locs) (hi : i < cntS 3) (hk : nw 2400 n = some k) (hc : cells + 1 ≤ R.cells) (hs : slots + 2400 ≤ R.slots) (hw : Cond.fieldLink own index (TTf 3 13).1 (TTf 3 13).2.1 (TTf 3 13).2.2.1 ∈ GW) (hd : decode cc pc = .ok (.newarray .int, 2)) (hd2 : decode cc (pc + 2) = .ok (.putfield index, 3))
    (kk : ∀ (a' : Nat → Nat → Nat) (H1 : Heap) (locs1 : List Loc), AG a0 a' → AG a a' → Rel E a' (wN σ 43 i 10 k) H1 → va_S (AE E) s.heap H1 locs1 → W p l e R s m args below meth c H1 locs1 (cells + 1) (slots + 2400) Q (F0 m (pc + 5) ls rest)) : W p l e R s m args below meth c H locs cells slots Q (F0 m pc ls (.int n :: .ref (a 3 i) :: rest)) := by
  obtain ⟨h1, h2, h3⟩ := nw_in hk
  refine va_newaK C.1 C.2.1 (atype := .int) (C.2.2.2.2.1 _ aw_int) rfl hd rfl h1 h2 (by show k * 4 ≤ _; omega) hc (by omega) rfl fun H1 cA e1 z1 o1 hAr hNm => ?_
  have hcA : cA = eC E 0 := Option.some.inj (hNm.symm.trans (C.2.2.2.2.2.2.1.2 0 (eC E 0, .int) rfl).2)
  subst hcA
  refine W.widen (k := cells + 1) (n := slots + 2400) (Nat.le_refl _) (by omega) ?_
  have hR1 : Rel E a σ H1 := hR.mono o1
  have hb : eB E ≤ H.size := Nat.le_trans C.2.2.2.2.2.2.2.2 hS.1
  have hS1 : va_S (AE E) s.heap H1 locs := ⟨Nat.le_trans hS.1 (by omega), fun q g1 g2 => (o1 q (Nat.lt_of_lt_of_le g1 hS.1)).trans (hS.2.1 q g1 g2), hS.2.2⟩
  have hap := va_apart (own := own) C.2.2.2.2.1 (uw_in (r := 3) (by decide)) (tyf 3) (ty_all 3 (by decide)) (nm_all 3 (by decide)) C.2.2.2.2.2.2.1 (vwCl_at 3 (by decide))
  have h0 := hR1.1 3 i (lv0 hi (by decide))
  unfold cellOK at h0
  rw [if_pos (by decide)] at h0
  obtain ⟨cell, q1, q2, q3, q4⟩ := h0
  obtain ⟨hSl, hfc, kC, hkC, hkind⟩ := C.2.2.2.2.2.2.1.1 3 _ (vwCl_at 3 (by decide))
  obtain ⟨cf, kf, fi, f, hi2, hsl⟩ := hSl 13 (by decide)
  have hlay := C.2.2.2.2.1 _ (ly_all 3 (by decide) 13 (by decide))
  unfold u_lay at hlay
  rw [if_neg (by decide)] at hlay
  have hst := (u_facts hfc hkC (u_lays C.2.2.2.2.1 (uw_in (r := 3) (by decide)) (k := 13) (by decide)) hi2).1
  have h6 := u_store (ty := .array .int) (v := .ref H.size) hfc hkC hkind hlay hi2 (by decide +kernel) rfl rfl
  refine W.putK C.1 C.2.1 (f := f) ⟨C.2.2.2.1, C.2.2.2.2.1 _ hw, ⟨_, _, _, hi2⟩, hst⟩ (by rw [q2]; exact h6) q1 q3 (by rw [hsl]; exact k2_hasslot (q4 13 (by decide))) rfl rfl hd2 fun H2 f1 f2 f3 => ?_
  rw [hsl] at f1 ⊢
  have hlt := hR.lt (lv0 (σ := σ) hi (show ¬ (3 : Nat) = 91 by decide))
  refine kk (upA a 43 i H.size) H2 _ (fun r' i' g1 g2 => ?_) (fun r' i' g1 g2 => ?_) (hR.new43 hi (Nat.le_refl _) hb ?_ ?_ ?_) (hS1.put f2 f3 (hR.2.2.1 3 i (lv0 hi (by decide))))
  · have e : upA a 43 i H.size r' i' = a r' i' := if_neg (by omega)
    rw [e]; exact hAG r' i' g1 g2
  · exact if_neg (by omega)
  · unfold cellOK
    rw [if_pos (by decide), slot_N43_3]
    have e : upA a 43 i H.size 3 i = a 3 i := if_neg (by omega)
    rw [e]
    exact ⟨_, f1, q2, q3, t_set q4 hap (by decide) _⟩
  · rw [f3 H.size (Nat.ne_of_gt hlt), e1]
    rfl
  · intro z g1 g2
    rw [f3 z g2, o1 z g1]
end R6
