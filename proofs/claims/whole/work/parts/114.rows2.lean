theorem wm_ini : Cond.initialized "java/lang/Math" ∈ GW := gw_t 19 (by decide +kernel) (by decide +kernel)
theorem wm_max_s : Cond.static Lib.Math.max.name ∈ GW := gw_t 545 (by decide +kernel) (by decide +kernel)
theorem wm_max_c : Cond.code Lib.Math.max.name Lib.Math.max.code 2 (some .int) ∈ GW := gw_t 546 (by decide +kernel) (by decide +kernel)
theorem wm_min_s : Cond.static Lib.Math.min.name ∈ GW := gw_t 494 (by decide +kernel) (by decide +kernel)
theorem wm_min_c : Cond.code Lib.Math.min.name Lib.Math.min.code 2 (some .int) ∈ GW := gw_t 495 (by decide +kernel) (by decide +kernel)
theorem wm_abs_s : Cond.static Lib.Math.abs.name ∈ GW := gw_t 1250 (by decide +kernel) (by decide +kernel)
theorem wm_abs_c : Cond.code Lib.Math.abs.name Lib.Math.abs.code 1 (some .int) ∈ GW := gw_t 1251 (by decide +kernel) (by decide +kernel)
theorem wm_minL_s : Cond.static Lib.MathLoose.min_long.x ∈ GW := gw_t 577 (by decide +kernel) (by decide +kernel)
theorem wm_minL_c : Cond.code Lib.MathLoose.min_long.x Lib.MathLoose.min_long.code 4 (some .long) ∈ GW := gw_t 578 (by decide +kernel) (by decide +kernel)
theorem sw_ne {x v : Int32} {k : Int} (h : ¬ x = v) (hk : v.toInt = k) : x.toInt ≠ k := fun q => h (Int32.toInt_inj.mp (q.trans hk.symm))
theorem sl_ne2 {x : Int32} {a b d : Int} (h0 : ¬ x = 0) (h1 : ¬ x = 1) : Op.lookupswitch.offset [(0, a), (1, b)] d x.toInt = d := by
  have z0 : x.toInt ≠ 0 := sw_ne h0 rfl
  have z1 : x.toInt ≠ 1 := sw_ne h1 rfl
  simp [Op.lookupswitch.offset, Ne.symm z0, Ne.symm z1]
theorem Rel.gen {E : EV} {a : Nat → Nat → Nat} {σ σ' : HS} {H H1 : Heap} {r i : Nat} (h : Rel E a σ H) (hi : lvS σ r i) (hn : cellOK E a σ' H1 r i) (ho : ∀ q, q ≠ a r i → H1[q]? = H[q]?) (hs : ∀ r' i', lvS σ r' i' → ¬ (r' = r ∧ i' = i) → slot a σ' r' i' = slot a σ r' i' ∧ lenS σ' r' i' = lenS σ r' i') (hlv : ∀ r' i', lvS σ' r' i' → lvS σ r' i') (hreg : gR σ' 0 < 5 ∧ gR σ' 1 < 7 ∧ gR σ' 2 < 7) : Rel E a σ' H1 := by
  refine ⟨fun r' i' hl => ?_, fun r' i' r2 i2 h1 h2 => h.2.1 r' i' r2 i2 (hlv _ _ h1) (hlv _ _ h2), fun r' i' h1 => h.2.2.1 r' i' (hlv _ _ h1), hreg⟩
  by_cases hc : r' = r ∧ i' = i
  · obtain ⟨rfl, rfl⟩ := hc
    exact hn
  · have hne : a r' i' ≠ a r i := fun q => hc (h.2.1 r' i' r i (hlv _ _ hl) hi q)
    have hz := hs r' i' (hlv _ _ hl) hc
    exact ((h.1 r' i' (hlv _ _ hl)).kept (ho _ hne)).to hz.1 hz.2
section R3
variable {p : Program} {l : Launch} {e : Env} {R : Room} {s : State} {m : MethodId} {args : Array Value} {below : List Frame} {meth : Method} {c : Code} {H : Heap} {locs : List Loc} {cells slots mc ms : Nat} {Q : State → Prop}
variable {cc : ByteArray} {pc nL : Nat} {ls : Array Slot} {rest : List Value} {E : EV} {a : Nat → Nat → Nat} {σ : HS} {own : String}
theorem sw_in {x v : Int32} (hxv : x = v) (hexec : p.tables.exec = Jvm.exec) (hb : c.code = cc) {dflt lo hi : Int} {offs : Array Int} {len : Nat} {off : Int} {tgt : Nat} (hdg : decode cc pc = .ok (.tableswitch dflt lo hi offs, len)) (h1 : ¬ v.toInt < lo) (h2 : ¬ hi < v.toInt) (ho : offs[(v.toInt - lo).toNat]? = some off) (ht : (pc : Int) + off = (tgt : Int))
    (k : W p l e R s m args below meth c H locs cells slots Q (F0 m tgt ls rest)) : W p l e R s m args below meth c H locs cells slots Q (F0 m pc ls (.int x :: rest)) := by
  subst hxv
  exact lv_tableIn hexec hb hdg h1 h2 ho ht k
theorem sl_in {x v : Int32} (hxv : x = v) (hexec : p.tables.exec = Jvm.exec) (hb : c.code = cc) {dflt : Int} {ps : Array (Int × Int)} {len : Nat} {off : Int} {tgt : Nat} (hdg : decode cc pc = .ok (.lookupswitch dflt ps, len)) (hp : (ps.toList.zip (ps.toList.drop 1)).all (fun (a, next) => a.1 < next.1) = true) (ho : Op.lookupswitch.offset ps.toList dflt v.toInt = off) (ht : (pc : Int) + off = (tgt : Int))
    (k : W p l e R s m args below meth c H locs cells slots Q (F0 m tgt ls rest)) : W p l e R s m args below meth c H locs cells slots Q (F0 m pc ls (.int x :: rest)) := by
  subst hxv
  exact lv_lookup hexec hb hdg hp ho ht k
theorem r_callV1 {y : MethodName} {b' : ByteArray} {mL' fr lo r i index n : Nat} {ret' : Option FieldType} {As : List Value} {v : Value} {σ' : HS} {st : List Value} (C : Cx E p s m args meth c cc nL own) (hM : Ct l E y b' mL' ret' fr lo mc ms a σ (.ref (a r i) :: As) (some v) σ') (hR : Rel E a σ H) (hS : va_S (AE E) s.heap H locs) (hi : lvS σ r i) (hr : r < 10) (hw : Cond.methodLink own index y ∈ GW) (hy : MW y (RRf r) b' mL' ret' n) (hn : As.length = n)
    (hf : fr + 1 ≤ R.frames ∧ 8 + (mL' + 11) + lo ≤ R.locals ∧ cells + mc ≤ R.cells ∧ slots + ms ≤ R.slots) (hl : ls.size = nL) (hst : st = As.reverse ++ .ref (a r i) :: rest) (hq : (rest.map fun v => v.category).sum ≤ 8) (hdg : decode cc pc = .ok (.invokevirtual index, 3))
    (kk : ∀ (H1 : Heap) (locs1 : List Loc), Rel E a σ' H1 → va_S (AE E) s.heap H1 locs1 → W p l e R s m args below meth c H1 locs1 (cells + mc) (slots + ms) Q (F0 m (pc + 3) ls (v :: rest))) : W p l e R s m args below meth c H locs cells slots Q (F0 m pc ls st) :=
  r_callV C hM hR hS hi hr hw hy hn hf hl hst hq hdg kk
theorem r_callV0 {y : MethodName} {b' : ByteArray} {mL' fr lo r i index n : Nat} {ret' : Option FieldType} {As : List Value} {σ' : HS} {st : List Value} (C : Cx E p s m args meth c cc nL own) (hM : Ct l E y b' mL' ret' fr lo mc ms a σ (.ref (a r i) :: As) none σ') (hR : Rel E a σ H) (hS : va_S (AE E) s.heap H locs) (hi : lvS σ r i) (hr : r < 10) (hw : Cond.methodLink own index y ∈ GW) (hy : MW y (RRf r) b' mL' ret' n) (hn : As.length = n)
    (hf : fr + 1 ≤ R.frames ∧ 8 + (mL' + 11) + lo ≤ R.locals ∧ cells + mc ≤ R.cells ∧ slots + ms ≤ R.slots) (hl : ls.size = nL) (hst : st = As.reverse ++ .ref (a r i) :: rest) (hq : (rest.map fun v => v.category).sum ≤ 8) (hdg : decode cc pc = .ok (.invokevirtual index, 3))
    (kk : ∀ (H1 : Heap) (locs1 : List Loc), Rel E a σ' H1 → va_S (AE E) s.heap H1 locs1 → W p l e R s m args below meth c H1 locs1 (cells + mc) (slots + ms) Q (F0 m (pc + 3) ls rest)) : W p l e R s m args below meth c H locs cells slots Q (F0 m pc ls st) :=
  r_callV C hM hR hS hi hr hw hy hn hf hl hst hq hdg kk
theorem r_callS1 {y : MethodName} {b' : ByteArray} {mL' fr lo index n : Nat} {ret' : Option FieldType} {As : List Value} {v : Value} {σ' : HS} {st : List Value} (C : Cx E p s m args meth c cc nL own) (hM : Ct l E y b' mL' ret' fr lo mc ms a σ As (some v) σ') (hR : Rel E a σ H) (hS : va_S (AE E) s.heap H locs) (hw : Cond.methodLink own index y ∈ GW) (hy : MS y b' mL' ret' n) (hn : As.length = n)
    (hf : fr + 1 ≤ R.frames ∧ 8 + (mL' + 11) + lo ≤ R.locals ∧ cells + mc ≤ R.cells ∧ slots + ms ≤ R.slots) (hl : ls.size = nL) (hst : st = As.reverse ++ rest) (hq : (rest.map fun v => v.category).sum ≤ 8) (hdg : decode cc pc = .ok (.invokestatic index, 3))
    (kk : ∀ (H1 : Heap) (locs1 : List Loc), Rel E a σ' H1 → va_S (AE E) s.heap H1 locs1 → W p l e R s m args below meth c H1 locs1 (cells + mc) (slots + ms) Q (F0 m (pc + 3) ls (v :: rest))) : W p l e R s m args below meth c H locs cells slots Q (F0 m pc ls st) :=
  r_callS C hM hR hS hw hy hn hf hl hst hq hdg kk
theorem r_callS0 {y : MethodName} {b' : ByteArray} {mL' fr lo index n : Nat} {ret' : Option FieldType} {As : List Value} {σ' : HS} {st : List Value} (C : Cx E p s m args meth c cc nL own) (hM : Ct l E y b' mL' ret' fr lo mc ms a σ As none σ') (hR : Rel E a σ H) (hS : va_S (AE E) s.heap H locs) (hw : Cond.methodLink own index y ∈ GW) (hy : MS y b' mL' ret' n) (hn : As.length = n)
    (hf : fr + 1 ≤ R.frames ∧ 8 + (mL' + 11) + lo ≤ R.locals ∧ cells + mc ≤ R.cells ∧ slots + ms ≤ R.slots) (hl : ls.size = nL) (hst : st = As.reverse ++ rest) (hq : (rest.map fun v => v.category).sum ≤ 8) (hdg : decode cc pc = .ok (.invokestatic index, 3))
    (kk : ∀ (H1 : Heap) (locs1 : List Loc), Rel E a σ' H1 → va_S (AE E) s.heap H1 locs1 → W p l e R s m args below meth c H1 locs1 (cells + mc) (slots + ms) Q (F0 m (pc + 3) ls rest)) : W p l e R s m args below meth c H locs cells slots Q (F0 m pc ls st) :=
  r_callS C hM hR hS hw hy hn hf hl hst hq hdg kk
/-- a View's scene, a View's task, a LawReader's law: the three references that are put anew -/
theorem r_putD1 {j index : Nat} (C : Cx E p s m args meth c cc nL own) (hR : Rel E a σ H) (hS0 : va_S (AE E) s.heap H locs) (hj : j < cntS 3) (hw : Cond.fieldLink own index (TTf 7 0).1 (TTf 7 0).2.1 (TTf 7 0).2.2.1 ∈ GW) (hdg : decode cc pc = .ok (.putfield index, 3))
    (kk : ∀ (H1 : Heap) (locs1 : List Loc), Rel E a (wR σ 1 j) H1 → va_S (AE E) s.heap H1 locs1 → W p l e R s m args below meth c H1 locs1 cells slots Q (F0 m (pc + 3) ls rest)) : W p l e R s m args below meth c H locs cells slots Q (F0 m pc ls (.ref (a 3 j) :: .ref (a 7 0) :: rest)) := by
  refine r_put0 C hR hS0 7 0 0 (σ' := wR σ 1 j) (ty := .object RX3) (lv0 (by decide) (by decide)) (by decide) (by decide) hw (by decide) (by decide +kernel) rfl rfl hdg ?_ (fun H1 h1 h2 => hR.gen (lv0 (by decide) (by decide)) h1 h2 (fun r' i' hl hne => ⟨?_, ?_⟩) (fun r' i' q => ⟨q.1, fun z => q.2 z⟩) ⟨hR.2.2.2.1, hj, hR.2.2.2.2.2⟩) kk
  · funext k
    match k with
    | 0 => rfl
    | k + 1 =>
      show slot a (wR σ 1 j) 7 0 (k + 1) = updV (slot a σ 7 0) 0 _ (k + 1)
      have e2 : updV (slot a σ 7 0) 0 (.ref (a 3 j)) (k + 1) = slot a σ 7 0 (k + 1) := by simp [updV]
      rw [e2]
      match k with
      | 0 => rfl
      | k + 1 => rfl
  · funext k
    by_cases h7 : r' = 7
    · subst h7
      exact absurd ⟨rfl, by have := hl.1; have e : cntS 7 = 1 := rfl; omega⟩ hne
    · have e1 : ridx (wR σ 1 j) r' i' k = ridx σ r' i' k := by
        unfold ridx
        rw [gR_wR, gR_wR, gR_wR]
        simp [h7]
      unfold slot
      rw [e1]
      rfl
  · have e1 : gR (wR σ 1 j) (3 + i') = gR σ (3 + i') := by rw [gR_wR, if_neg (by omega)]
    have e2 : gR (wR σ 1 j) (10 + i') = gR σ (10 + i') := by rw [gR_wR, if_neg (by omega)]
    unfold lenS
    rw [e1, e2]
theorem r_putD2 {j index : Nat} (C : Cx E p s m args meth c cc nL own) (hR : Rel E a σ H) (hS0 : va_S (AE E) s.heap H locs) (hj : j < cntS 6) (hw : Cond.fieldLink own index (TTf 7 1).1 (TTf 7 1).2.1 (TTf 7 1).2.2.1 ∈ GW) (hdg : decode cc pc = .ok (.putfield index, 3))
    (kk : ∀ (H1 : Heap) (locs1 : List Loc), Rel E a (wR σ 2 j) H1 → va_S (AE E) s.heap H1 locs1 → W p l e R s m args below meth c H1 locs1 cells slots Q (F0 m (pc + 3) ls rest)) : W p l e R s m args below meth c H locs cells slots Q (F0 m pc ls (.ref (a 6 j) :: .ref (a 7 0) :: rest)) := by
  refine r_put0 C hR hS0 7 0 1 (σ' := wR σ 2 j) (ty := .object RX6) (lv0 (by decide) (by decide)) (by decide) (by decide) hw (by decide) (by decide +kernel) rfl rfl hdg ?_ (fun H1 h1 h2 => hR.gen (lv0 (by decide) (by decide)) h1 h2 (fun r' i' hl hne => ⟨?_, ?_⟩) (fun r' i' q => ⟨q.1, fun z => q.2 z⟩) ⟨hR.2.2.2.1, hR.2.2.2.2.1, hj⟩) kk
  · funext k
    match k with
    | 0 => rfl
    | 1 => rfl
    | k + 2 =>
      have e2 : updV (slot a σ 7 0) 1 (.ref (a 6 j)) (k + 2) = slot a σ 7 0 (k + 2) := by simp [updV]
      rw [e2]
      rfl
  · funext k
    by_cases h7 : r' = 7
    · subst h7
      exact absurd ⟨rfl, by have := hl.1; have e : cntS 7 = 1 := rfl; omega⟩ hne
    · have e1 : ridx (wR σ 2 j) r' i' k = ridx σ r' i' k := by
        unfold ridx
        rw [gR_wR, gR_wR, gR_wR]
        simp [h7]
      unfold slot
      rw [e1]
      rfl
  · have e1 : gR (wR σ 2 j) (3 + i') = gR σ (3 + i') := by rw [gR_wR, if_neg (by omega)]
    have e2 : gR (wR σ 2 j) (10 + i') = gR σ (10 + i') := by rw [gR_wR, if_neg (by omega)]
    unfold lenS
    rw [e1, e2]
theorem r_putD0 {j index : Nat} (C : Cx E p s m args meth c cc nL own) (hR : Rel E a σ H) (hS0 : va_S (AE E) s.heap H locs) (hj : j < cntS 1) (hw : Cond.fieldLink own index (TTf 2 1).1 (TTf 2 1).2.1 (TTf 2 1).2.2.1 ∈ GW) (hdg : decode cc pc = .ok (.putfield index, 3))
    (kk : ∀ (H1 : Heap) (locs1 : List Loc), Rel E a (wR σ 0 j) H1 → va_S (AE E) s.heap H1 locs1 → W p l e R s m args below meth c H1 locs1 cells slots Q (F0 m (pc + 3) ls rest)) : W p l e R s m args below meth c H locs cells slots Q (F0 m pc ls (.ref (a 1 j) :: .ref (a 2 0) :: rest)) := by
  refine r_put0 C hR hS0 2 0 1 (σ' := wR σ 0 j) (ty := .object RX1) (lv0 (by decide) (by decide)) (by decide) (by decide) hw (by decide) (by decide +kernel) rfl rfl hdg ?_ (fun H1 h1 h2 => hR.gen (lv0 (by decide) (by decide)) h1 h2 (fun r' i' hl hne => ⟨?_, ?_⟩) (fun r' i' q => ⟨q.1, fun z => q.2 z⟩) ⟨hj, hR.2.2.2.2.1, hR.2.2.2.2.2⟩) kk
  · funext k
    match k with
    | 0 => rfl
    | 1 => rfl
    | k + 2 =>
      have e2 : updV (slot a σ 2 0) 1 (.ref (a 1 j)) (k + 2) = slot a σ 2 0 (k + 2) := by simp [updV]
      rw [e2]
      rfl
  · funext k
    by_cases h7 : r' = 2
    · subst h7
      exact absurd ⟨rfl, by have := hl.1; have e : cntS 2 = 1 := rfl; omega⟩ hne
    · have e1 : ridx (wR σ 0 j) r' i' k = ridx σ r' i' k := by
        unfold ridx
        rw [gR_wR, gR_wR, gR_wR]
        simp [h7]
      unfold slot
      rw [e1]
      rfl
  · have e1 : gR (wR σ 0 j) (3 + i') = gR σ (3 + i') := by rw [gR_wR, if_neg (by omega)]
    have e2 : gR (wR σ 0 j) (10 + i') = gR σ (10 + i') := by rw [gR_wR, if_neg (by omega)]
    unfold lenS
    rw [e1, e2]
theorem r_max {x y : Int32} {index : Nat} (C : Cx E p s m args meth c cc nL own) (hl : ls.size = nL) (hw : Cond.methodLink own index Lib.Math.max.name ∈ GW) (hf : 1 ≤ R.frames) (hlo : (rest.map fun v => v.category).sum + 13 ≤ R.locals) (hc : cells ≤ R.cells) (hs : slots ≤ R.slots) (hdg : decode cc pc = .ok (.invokestatic index, 3))
    (kk : W p l e R s m args below meth c H locs cells slots Q (F0 m (pc + 3) ls (.int (if (x < y) then y else x) :: rest))) : W p l e R s m args below meth c H locs cells slots Q (F0 m pc ls (.int y :: .int x :: rest)) :=
  va_mmax C.1 C.2.1 (C.2.2.1.trans hl.symm) C.2.2.2.1 (C.2.2.2.2.1 _ hw) (C.2.2.2.2.1 _ wm_max_s) (C.2.2.2.2.1 _ wm_ini) (C.2.2.2.2.1 _ wm_max_c) hf hlo hc hs hdg kk
theorem r_min {x y : Int32} {index : Nat} (C : Cx E p s m args meth c cc nL own) (hl : ls.size = nL) (hw : Cond.methodLink own index Lib.Math.min.name ∈ GW) (hf : 1 ≤ R.frames) (hlo : (rest.map fun v => v.category).sum + 13 ≤ R.locals) (hc : cells ≤ R.cells) (hs : slots ≤ R.slots) (hdg : decode cc pc = .ok (.invokestatic index, 3))
    (kk : W p l e R s m args below meth c H locs cells slots Q (F0 m (pc + 3) ls (.int (if (y < x) then y else x) :: rest))) : W p l e R s m args below meth c H locs cells slots Q (F0 m pc ls (.int y :: .int x :: rest)) :=
  va_mmin C.1 C.2.1 (C.2.2.1.trans hl.symm) C.2.2.2.1 (C.2.2.2.2.1 _ hw) (C.2.2.2.2.1 _ wm_min_s) (C.2.2.2.2.1 _ wm_ini) (C.2.2.2.2.1 _ wm_min_c) hf hlo hc hs hdg kk
theorem r_abs {x : Int32} {index : Nat} (C : Cx E p s m args meth c cc nL own) (hl : ls.size = nL) (hw : Cond.methodLink own index Lib.Math.abs.name ∈ GW) (hf : 1 ≤ R.frames) (hlo : (rest.map fun v => v.category).sum + 13 ≤ R.locals) (hc : cells ≤ R.cells) (hs : slots ≤ R.slots) (hdg : decode cc pc = .ok (.invokestatic index, 3))
    (kk : W p l e R s m args below meth c H locs cells slots Q (F0 m (pc + 3) ls (.int (if (0 ≤ x) then x else 0 - x) :: rest))) : W p l e R s m args below meth c H locs cells slots Q (F0 m pc ls (.int x :: rest)) :=
  va_mabs C.1 C.2.1 (C.2.2.1.trans hl.symm) C.2.2.2.1 (C.2.2.2.2.1 _ hw) (C.2.2.2.2.1 _ wm_abs_s) (C.2.2.2.2.1 _ wm_ini) (C.2.2.2.2.1 _ wm_abs_c) hf hlo hc hs hdg kk
theorem r_minL {x y : Int64} {index : Nat} (C : Cx E p s m args meth c cc nL own) (hl : ls.size = nL) (hw : Cond.methodLink own index Lib.MathLoose.min_long.x ∈ GW) (hf : 1 ≤ R.frames) (hlo : (rest.map fun v => v.category).sum + 15 ≤ R.locals) (hc : cells ≤ R.cells) (hs : slots ≤ R.slots) (hdg : decode cc pc = .ok (.invokestatic index, 3))
    (kk : W p l e R s m args below meth c H locs cells slots Q (F0 m (pc + 3) ls (.long (if (y < x) then y else x) :: rest))) : W p l e R s m args below meth c H locs cells slots Q (F0 m pc ls (.long y :: .long x :: rest)) :=
  va_mmin_long C.1 C.2.1 (C.2.2.1.trans hl.symm) C.2.2.2.1 (C.2.2.2.2.1 _ hw) (C.2.2.2.2.1 _ wm_minL_s) (C.2.2.2.2.1 _ wm_ini) (C.2.2.2.2.1 _ wm_minL_c) hf hlo hc hs hdg kk
end R3
