/-! ===== the law's own walk: rows ===== -/
def ag (xs : Nat → Int32) (i j : Int32) : Int32 := xs (i + j).toNatClampNeg
def LXm (E : EV) (p : Program) (l : Launch) (s : State) (m : MethodId) (meth : Method) (c : Code) (b L : Nat) (xs : Nat → Int32) : Prop := Cx E p s m #[.ref b] meth c cL_law_ 8 RL ∧ va_X b L xs s s.heap ∧ b < s.heap.size ∧ eB E = s.heap.size ∧ l.stackTraces = false
def MSH (y : MethodName) (b : ByteArray) (mL : Nat) (hh : List (Nat × Nat × Nat × Nat)) (n : Nat) : Prop := (y.cls ≠ "java/lang/invoke/MethodHandle" ∧ y.cls ≠ "java/lang/invoke/VarHandle" ∧ (parseMethodDescriptor y.desc).map (fun d => d.parameters.length) = some n) ∧ Cond.static y ∈ GW ∧ Cond.initialized y.cls ∈ GW ∧ Cond.codeWith y b mL (some .int) hh ∈ GW
section R12
variable {p : Program} {l : Launch} {e : Env} {R : Room} {s : State} {m : MethodId} {args : Array Value} {below : List Frame} {meth : Method} {c : Code} {H : Heap} {locs : List Loc} {cells slots mc ms : Nat} {Q : State → Prop}
variable {cc : ByteArray} {pc nL : Nat} {ls : Array Slot} {rest : List Value} {E : EV} {a a0 : Nat → Nat → Nat} {σ : HS} {own : String} {b L : Nat} {xs : Nat → Int32}
theorem o_back {z : Int32} {y : Int64} {σ' : HS} {st : List Value} {av : Array Value} (hr : va_Run p l e R s m args below meth c H locs cells slots mc ms (F0 m pc ls st) rest (QWo E a z y σ' av) (AE E)) (hS : va_S (AE E) s.heap H locs)
    (kk : ∀ (a' : Nat → Nat → Nat) (H1 : Heap) (locs1 : List Loc), ALo a a' → Rel E a' σ' H1 → va_S (AE E) s.heap H1 locs1 → (z = 0 → a' 92 0 = eL y) → W p l e R s m args below meth c H1 locs1 (cells + mc) (slots + ms) Q (F0 m (pc + 3) ls (.int z :: rest))) : W p l e R s m args below meth c H locs cells slots Q (F0 m pc ls st) := by
  intro T hT X
  obtain ⟨v, st₀, t, T', L0, h0, X', hL, e1, e2, ⟨hv, ⟨a', hAL, hRel, h92⟩, hz, hk⟩, st1⟩ := hr T hT X
  cases hv
  rw [h0] at hz hk
  obtain ⟨t2, a1, b1⟩ := kk a' T'.heap (locs ++ L0) hAL (by rw [e1]; exact hRel)
    ⟨Nat.le_trans hS.1 (by rw [e1]; exact hz), fun q h1 h2 => by rw [e1, hk q (Nat.lt_of_lt_of_le h1 hS.1) h2]; exact hS.2.1 q h1 h2, fun q hq => by
      rcases List.mem_append.mp hq with h | h
      · exact hS.2.2 q h
      · exact hL q h⟩ h92 T' rfl X'
  exact ⟨t2, st1 t2 a1, b1⟩
theorem n_back {v : Value} {σ' : HS} {st : List Value} {av : Array Value} (hr : va_Run p l e R s m args below meth c H locs cells slots mc ms (F0 m pc ls st) rest (QWn E a (some v) σ' av) (AE E)) (hS : va_S (AE E) s.heap H locs)
    (kk : ∀ (a' : Nat → Nat → Nat) (H1 : Heap) (locs1 : List Loc), AN a a' → Rel E a' σ' H1 → va_S (AE E) s.heap H1 locs1 → W p l e R s m args below meth c H1 locs1 (cells + mc) (slots + ms) Q (F0 m (pc + 3) ls (v :: rest))) : W p l e R s m args below meth c H locs cells slots Q (F0 m pc ls st) := by
  intro T hT X
  obtain ⟨v1, st₀, t, T', L0, h0, X', hL, e1, e2, ⟨hv, ⟨a', hAN, hRel⟩, hz, hk⟩, st1⟩ := hr T hT X
  cases hv
  rw [h0] at hz hk
  obtain ⟨t2, a1, b1⟩ := kk a' T'.heap (locs ++ L0) hAN (by rw [e1]; exact hRel)
    ⟨Nat.le_trans hS.1 (by rw [e1]; exact hz), fun q h1 h2 => by rw [e1, hk q (Nat.lt_of_lt_of_le h1 hS.1) h2]; exact hS.2.1 q h1 h2, fun q hq => by
      rcases List.mem_append.mp hq with h | h
      · exact hS.2.2 q h
      · exact hL q h⟩ T' rfl X'
  exact ⟨t2, st1 t2 a1, b1⟩
theorem l_callH {y : MethodName} {b' : ByteArray} {mL' : Nat} {hh : List (Nat × Nat × Nat × Nat)} {fr lo index n : Nat} {As : List Value} {z : Int32} {v : Int64} {σ' : HS} {st : List Value} (C : Cx E p s m args meth c cc nL own) (hM : CtH l E y b' mL' hh fr lo mc ms a σ As z v σ') (hR : Rel E a σ H) (hS : va_S (AE E) s.heap H locs) (hw : Cond.methodLink own index y ∈ GW) (hy : MSH y b' mL' hh n) (hn : As.length = n)
    (hf : fr + 1 ≤ R.frames ∧ 8 + (mL' + 11) + lo ≤ R.locals ∧ cells + mc ≤ R.cells ∧ slots + ms ≤ R.slots) (hl : ls.size = nL) (hst : st = As.reverse ++ rest) (hq : (rest.map fun v => v.category).sum ≤ 8) (hdg : decode cc pc = .ok (.invokestatic index, 3))
    (kk : ∀ (a' : Nat → Nat → Nat) (H1 : Heap) (locs1 : List Loc), ALo a a' → Rel E a' σ' H1 → va_S (AE E) s.heap H1 locs1 → (z = 0 → a' 92 0 = eL v) → W p l e R s m args below meth c H1 locs1 (cells + mc) (slots + ms) Q (F0 m (pc + 3) ls (.int z :: rest))) : W p l e R s m args below meth c H locs cells slots Q (F0 m pc ls st) := by
  refine o_back (vx_runSW (As := As) (rest := rest) (Ts := GW) (own := own) (nL := nL) (n := n) (g := F0 m pc ls st) ⟨C.1, C.2.1, C.2.2.1, C.2.2.2.1, C.2.2.2.2.1⟩ hM (vx_cwSW n C.2.2.2.2.1 (gw_goodIn ?_) rfl rfl rfl hy.1 ⟨hf.1, hf.2.1⟩) ⟨PW.blind, fun U hU hW => ⟨rfl, pw_at C hR hS hU hW⟩⟩ rfl hn hl hst (lv_room hq) hdg hf.2.2) hS kk
  intro w hw'
  unfold va_wsS at hw'
  simp only [List.cons_append, List.nil_append, List.mem_cons] at hw'
  rcases hw' with h | h | h | h | h
  · rw [h]; exact hw
  · rw [h]; exact hy.2.1
  · rw [h]; exact hy.2.2.1
  · rw [h]; exact hy.2.2.2
  · exact h
/-- the reference's next: it alone makes an array -/
theorem l_callN {y : MethodName} {b' : ByteArray} {mL' fr lo index n : Nat} {ret' : Option FieldType} {As : List Value} {v : Value} {σ' : HS} {st : List Value} (C : Cx E p s m args meth c cc nL own) (hM : CtN l E y b' mL' ret' fr lo mc ms a σ (.ref (a 9 0) :: As) (some v) σ') (hR : Rel E a σ H) (hS : va_S (AE E) s.heap H locs) (hw : Cond.methodLink own index y ∈ GW) (hy : MW y (RRf 9) b' mL' ret' n) (hn : As.length = n)
    (hf : fr + 1 ≤ R.frames ∧ 8 + (mL' + 11) + lo ≤ R.locals ∧ cells + mc ≤ R.cells ∧ slots + ms ≤ R.slots) (hl : ls.size = nL) (hst : st = As.reverse ++ .ref (a 9 0) :: rest) (hq : (rest.map fun v => v.category).sum ≤ 8) (hdg : decode cc pc = .ok (.invokevirtual index, 3))
    (kk : ∀ (a' : Nat → Nat → Nat) (H1 : Heap) (locs1 : List Loc), AN a a' → Rel E a' σ' H1 → va_S (AE E) s.heap H1 locs1 → W p l e R s m args below meth c H1 locs1 (cells + mc) (slots + ms) Q (F0 m (pc + 3) ls (v :: rest))) : W p l e R s m args below meth c H locs cells slots Q (F0 m pc ls st) := by
  refine n_back (va_runV (As := As) (rest := rest) (Ts := GW) (own := own) (C := RRf 9) (b := a 9 0) (nL := nL) (n := n) (g := F0 m pc ls st) ⟨C.1, C.2.1, C.2.2.1, C.2.2.2.1, C.2.2.2.2.1⟩ hM (cwV n C.2.2.2.2.1 (gw_goodIn ?_) rfl rfl rfl hy.1 ⟨hf.1, hf.2.1⟩) ⟨PW.blind, r_recv C hR (lv0 (by decide) (by decide)) (by decide), fun U hU hW => ⟨rfl, pw_at C hR hS hU hW⟩⟩ rfl hn hl hst (lv_room hq) hdg hf.2.2) hS kk
  intro w hw'
  unfold wsV at hw'
  simp only [List.cons_append, List.nil_append, List.mem_cons] at hw'
  rcases hw' with h | h | h | h | h | h
  · rw [h]; exact hw
  · rw [h]; exact hy.2.1
  · rw [h]; exact hy.2.2.1
  · rw [h]; exact hy.2.2.2.1
  · rw [h]; exact hy.2.2.2.2
  · exact h
theorem LXm.nb (X : LXm E p l s m meth c b L xs) : ¬ AE E b := by
  intro h
  have h1 : eB E ≤ b := h
  rw [X.2.2.2.1] at h1
  exact absurd X.2.2.1 (Nat.not_lt.mpr h1)
/-- script[i + j] -/
theorem l_arg {i j : Int32} {n : Int} (X : LXm E p l s m meth c b L xs) (hS : va_S (AE E) s.heap H locs) (hin : vp_in (i + j) L) (h0 : ls[0]? = some (.val (.ref b))) (h4 : ls[4]? = some (.val (.int i))) (hj : Int32.ofInt n = j) (d0 : decode cL_law_ pc = .ok (.aload_n 0, 1)) (d1 : decode cL_law_ (pc + 1) = .ok (.iload 4, 2)) (d2 : decode cL_law_ (pc + 3) = .ok (.iconst n, 1)) (d3 : decode cL_law_ (pc + 4) = .ok (.iadd, 1)) (d4 : decode cL_law_ (pc + 5) = .ok (.iaload, 1))
    (kk : W p l e R s m #[.ref b] below meth c H locs cells slots Q (F0 m (pc + 6) ls (.int (ag xs i j) :: rest))) : W p l e R s m #[.ref b] below meth c H locs cells slots Q (F0 m pc ls rest) := by
  have hx := X.1.1
  have hb := X.1.2.1
  refine lv_aload_n hx hb d0 rfl h0 ?_
  refine lv_iload hx hb d1 h4 ?_
  refine lv_iconst hx hb d2 hj ?_
  refine lv_iadd hx hb d3 ?_
  exact va_sld hx hb X.2.1 X.2.2.1 X.nb hS hin d4 kk
theorem l_arg6 {i j : Int32} {n : Int} (X : LXm E p l s m meth c b L xs) (hS : va_S (AE E) s.heap H locs) (hin : vp_in (i + j) L) (h0 : ls[0]? = some (.val (.ref b))) (h4 : ls[4]? = some (.val (.int i))) (hj : (Int8.ofInt n).toInt32 = j) (d0 : decode cL_law_ pc = .ok (.aload_n 0, 1)) (d1 : decode cL_law_ (pc + 1) = .ok (.iload 4, 2)) (d2 : decode cL_law_ (pc + 3) = .ok (.bipush n, 2)) (d3 : decode cL_law_ (pc + 5) = .ok (.iadd, 1)) (d4 : decode cL_law_ (pc + 6) = .ok (.iaload, 1))
    (kk : W p l e R s m #[.ref b] below meth c H locs cells slots Q (F0 m (pc + 7) ls (.int (ag xs i j) :: rest))) : W p l e R s m #[.ref b] below meth c H locs cells slots Q (F0 m pc ls rest) := by
  have hx := X.1.1
  have hb := X.1.2.1
  refine lv_aload_n hx hb d0 rfl h0 ?_
  refine lv_iload hx hb d1 h4 ?_
  refine lv_bipush hx hb d2 hj ?_
  refine lv_iadd hx hb d3 ?_
  exact va_sld hx hb X.2.1 X.2.2.1 X.nb hS hin d4 kk
/-- x != 0, as a boolean -/
def bz (x : Int32) : Int32 := if x = 0 then 0 else 1
theorem l_bool {x : Int32} (hx : p.tables.exec = Jvm.exec) (hb : c.code = cc) (d0 : decode cc pc = .ok (.ifCond .eq 7, 3)) (d1 : decode cc (pc + 3) = .ok (.iconst 1, 1)) (d2 : decode cc (pc + 4) = .ok (.goto 4, 3)) (d3 : decode cc (pc + 7) = .ok (.iconst 0, 1))
    (kk : W p l e R s m args below meth c H locs cells slots Q (F0 m (pc + 8) ls (.int (bz x) :: rest))) : W p l e R s m args below meth c H locs cells slots Q (F0 m pc ls (.int x :: rest)) := by
  refine lv_if_eq (tgt := pc + 7) hx hb d0 (by omega) (fun h => ?_) (fun h => ?_)
  · refine lv_iconst (v := 0) hx hb d3 (by decide) ?_
    have k1 := kk
    unfold bz at k1
    rw [if_pos h] at k1
    exact k1
  · refine lv_iconst (v := 1) hx hb d1 (by decide) ?_
    refine lv_goto (tgt := pc + 8) hx hb d2 (by omega) ?_
    have k1 := kk
    unfold bz at k1
    rw [if_neg h] at k1
    exact k1
theorem l_bool64 {x : Int32} (hx : p.tables.exec = Jvm.exec) (hb : c.code = cc) (d0 : decode cc pc = .ok (.ifCond .eq 7, 3)) (d1 : decode cc (pc + 3) = .ok (.lconst 1, 1)) (d2 : decode cc (pc + 4) = .ok (.goto 4, 3)) (d3 : decode cc (pc + 7) = .ok (.lconst 0, 1))
    (kk : W p l e R s m args below meth c H locs cells slots Q (F0 m (pc + 8) ls (.long (if x = 0 then 0 else 1) :: rest))) : W p l e R s m args below meth c H locs cells slots Q (F0 m pc ls (.int x :: rest)) := by
  refine lv_if_eq (tgt := pc + 7) hx hb d0 (by omega) (fun h => ?_) (fun h => ?_)
  · refine lv_lconst (v := 0) hx hb d3 (by decide) ?_
    have k1 := kk
    rw [if_pos h] at k1
    exact k1
  · refine lv_lconst (v := 1) hx hb d1 (by decide) ?_
    refine lv_goto (tgt := pc + 8) hx hb d2 (by omega) ?_
    have k1 := kk
    rw [if_neg h] at k1
    exact k1
theorem lc_self (y : Int64) : lg_cmp y y = 0 := by
  unfold lg_cmp
  have h : ¬ y > y := fun h => by
    have h1 : y.toInt < y.toInt := Int64.lt_iff_toInt_lt.mp h
    omega
  rw [if_neg h, if_pos rfl]
/-- lcmp of two that are the same, ifeq -/
theorem l_same {x y : Int64} {off : Int} {tgt : Nat} (hxy : x = y) (hx : p.tables.exec = Jvm.exec) (hb : c.code = cc) (d0 : decode cc pc = .ok (.lcmp, 1)) (d1 : decode cc (pc + 1) = .ok (.ifCond .eq off, 3)) (ht : ((pc + 1 : Nat) : Int) + off = (tgt : Int))
    (kk : W p l e R s m args below meth c H locs cells slots Q (F0 m tgt ls rest)) : W p l e R s m args below meth c H locs cells slots Q (F0 m pc ls (.long y :: .long x :: rest)) := by
  subst hxy
  refine W.lcmp hx hb d0 ?_
  exact lv_if_eq (tgt := tgt) hx hb d1 ht (fun _ => kk) (fun h => absurd (lc_self x) h)
/-- m.thrown() -/
theorem l_thrown {ix : Nat} (X : LXm E p l s m meth c b L xs) (hR : Rel E a σ H) (hS : va_S (AE E) s.heap H locs) (hw : Cond.methodLink RL ix yX9_thrown ∈ GW) (hy : MW yX9_thrown (RRf 9) cX9_thrown 1 (some .int) 0) (hsz : ls.size = 8) (h2 : ls[2]? = some (.val (.ref (a 9 0)))) (d0 : decode cL_law_ pc = .ok (.aload_n 2, 1)) (d1 : decode cL_law_ (pc + 1) = .ok (.invokevirtual ix, 3)) (hcs : cells ≤ room_1.cells) (hss : slots ≤ room_1.slots)
    (kk : ∀ (H1 : Heap) (locs1 : List Loc), Rel E a σ H1 → va_S (AE E) s.heap H1 locs1 → W p l e room_1 s m #[.ref b] below meth c H1 locs1 cells slots Q (F0 m (pc + 4) ls [.int (gI σ 9 0 0)])) : W p l e room_1 s m #[.ref b] below meth c H locs cells slots Q (F0 m pc ls []) := by
  refine lv_aload_n X.1.1 X.1.2.1 d0 rfl h2 ?_
  exact r_callV1 (As := []) (rest := []) (r := 9) (i := 0) X.1 (vX9_thrown (out := gI σ 9 0 0) rfl) hR hS (lv0 (by decide) (by decide)) (by decide) hw hy rfl ⟨Nat.le_of_ble_eq_true rfl, Nat.le_of_ble_eq_true rfl, hcs, hss⟩ hsz rfl (Nat.le_of_ble_eq_true rfl) d1 kk
end R12
theorem km0 {l : List Nat} {k : Nat} (hl : l.length < 2 ^ 30) (h : kmL l k = 0) : k = 0 := by
  by_cases c : k = 0
  · exact c
  · exfalso
    unfold kmL at h
    rw [if_neg c] at h
    have h1 : l.idxOf k ≤ l.length := List.idxOf_le_length
    have h2 : (nI (l.idxOf k + 1)).toInt = ((l.idxOf k + 1 : Nat) : Int) := nI_toInt (by omega)
    rw [h] at h2
    have h3 : (0 : Int32).toInt = 0 := rfl
    omega
theorem km_1 {k : Nat} (h : k = 0 ∨ k ∈ [1]) : (k = 0 ∧ kmL [1] k = 0) ∨ (k = 1 ∧ kmL [1] k = 1) := by
  simp only [List.mem_cons, List.not_mem_nil, or_false] at h
  rcases h with rfl | rfl <;> decide
theorem km_3 {k : Nat} (h : k = 0 ∨ k ∈ [3]) : (k = 0 ∧ kmL [3] k = 0) ∨ (k = 3 ∧ kmL [3] k = 1) := by
  simp only [List.mem_cons, List.not_mem_nil, or_false] at h
  rcases h with rfl | rfl <;> decide
theorem km_21 {k : Nat} (h : k = 0 ∨ k ∈ [2, 1]) : (k = 0 ∧ kmL [2, 1] k = 0) ∨ (k = 2 ∧ kmL [2, 1] k = 1) ∨ (k = 1 ∧ kmL [2, 1] k = 2) := by
  simp only [List.mem_cons, List.not_mem_nil, or_false] at h
  rcases h with rfl | rfl | rfl <;> decide
theorem km_31 {k : Nat} (h : k = 0 ∨ k ∈ [3, 1]) : (k = 0 ∧ kmL [3, 1] k = 0) ∨ (k = 3 ∧ kmL [3, 1] k = 1) ∨ (k = 1 ∧ kmL [3, 1] k = 2) := by
  simp only [List.mem_cons, List.not_mem_nil, or_false] at h
  rcases h with rfl | rfl | rfl <;> decide
theorem km_23 {k : Nat} (h : k = 0 ∨ k ∈ [2, 3]) : (k = 0 ∧ kmL [2, 3] k = 0) ∨ (k = 2 ∧ kmL [2, 3] k = 1) ∨ (k = 3 ∧ kmL [2, 3] k = 2) := by
  simp only [List.mem_cons, List.not_mem_nil, or_false] at h
  rcases h with rfl | rfl | rfl <;> decide
theorem km_231 {k : Nat} (h : k = 0 ∨ k ∈ [2, 3, 1]) : (k = 0 ∧ kmL [2, 3, 1] k = 0) ∨ (k = 2 ∧ kmL [2, 3, 1] k = 1) ∨ (k = 3 ∧ kmL [2, 3, 1] k = 2) ∨ (k = 1 ∧ kmL [2, 3, 1] k = 3) := by
  simp only [List.mem_cons, List.not_mem_nil, or_false] at h
  rcases h with rfl | rfl | rfl | rfl <;> decide
section R13
variable {p : Program} {l : Launch} {e : Env} {R : Room} {s : State} {m : MethodId} {args : Array Value} {below : List Frame} {meth : Method} {c : Code} {H : Heap} {locs : List Loc} {cells slots mc ms : Nat} {Q : State → Prop}
variable {pc : Nat} {ls : Array Slot} {rest : List Value} {E : EV} {a a0 : Nat → Nat → Nat} {σ : HS} {b L : Nat} {xs : Nat → Int32}
/-- the end of a case: what it threw, what it answered -/
theorem l_tail {i z r : Int32} {ix : Nat} {off : Int} (X : LXm E p l s m meth c b L xs) (hR : Rel E a σ H) (hS : va_S (AE E) s.heap H locs) (hw : Cond.methodLink RL ix yX9_thrown ∈ GW) (hy : MW yX9_thrown (RRf 9) cX9_thrown 1 (some .int) 0) (hl : lv_has ls 8 [(6, .int r), (5, .int z), (4, .int i), (0, .ref b), (1, .ref (a 8 0)), (2, .ref (a 9 0)), (3, .ref (a 90 0))]) (hgt : gI σ 9 0 0 = z) (hv : z = 0 → dL (a 92 0) = r.toInt64) (hcs : cells ≤ room_1.cells) (hss : slots ≤ room_1.slots) (hoff : ((pc + 28 : Nat) : Int) + off = ((3227 : Nat) : Int))
    (d0 : decode cL_law_ pc = .ok (.aload_n 2, 1)) (d1 : decode cL_law_ (pc + 1) = .ok (.invokevirtual ix, 3)) (d4 : decode cL_law_ (pc + 4) = .ok (.iload 5, 2)) (d6 : decode cL_law_ (pc + 6) = .ok (.if_icmp .eq 5, 3)) (d11 : decode cL_law_ (pc + 11) = .ok (.iload 5, 2)) (d13 : decode cL_law_ (pc + 13) = .ok (.ifCond .ne 15, 3)) (d16 : decode cL_law_ (pc + 16) = .ok (.aload_n 3, 1)) (d17 : decode cL_law_ (pc + 17) = .ok (.iconst 0, 1)) (d18 : decode cL_law_ (pc + 18) = .ok (.laload, 1)) (d19 : decode cL_law_ (pc + 19) = .ok (.iload 6, 2)) (d21 : decode cL_law_ (pc + 21) = .ok (.i2l, 1)) (d22 : decode cL_law_ (pc + 22) = .ok (.lcmp, 1)) (d23 : decode cL_law_ (pc + 23) = .ok (.ifCond .eq 5, 3)) (d28 : decode cL_law_ (pc + 28) = .ok (.goto off, 3))
    (kk : ∀ (H1 : Heap) (locs1 : List Loc), Rel E a σ H1 → va_S (AE E) s.heap H1 locs1 → W p l e room_1 s m #[.ref b] below meth c H1 locs1 cells slots Q (F0 m 3227 ls [])) : W p l e room_1 s m #[.ref b] below meth c H locs cells slots Q (F0 m pc ls []) := by
  have hx := X.1.1
  have hb := X.1.2.1
  refine l_thrown X hR hS hw hy hl.1 (lv_at hl 5 rfl) d0 d1 hcs hss (fun H locs hR hS => ?_)
  refine lv_iload hx hb d4 (lv_at hl 1 rfl) ?_
  refine lv_icmp_eq (tgt := pc + 11) hx hb d6 (by omega) (fun _ => ?_) (fun c9 => absurd hgt c9)
  refine lv_iload hx hb d11 (lv_at hl 1 rfl) ?_
  refine lv_if_ne (tgt := pc + 28) hx hb d13 (by omega) (fun _ => ?_) (fun c9 => ?_)
  · refine lv_goto (tgt := 3227) hx hb d28 hoff ?_
    exact kk H locs hR hS
  · refine lv_aload_n hx hb d16 rfl (lv_at hl 6 rfl) ?_
    refine lv_iconst (v := 0) hx hb d17 (by decide) ?_
    refine r_outld X.1 hR d18 ?_
    refine lv_iload hx hb d19 (lv_at hl 0 rfl) ?_
    refine lv_i2l (v := r.toInt64) hx hb d21 rfl ?_
    refine l_same (tgt := pc + 28) (off := 5) (hv c9) hx hb d22 d23 (by omega) ?_
    refine lv_goto (tgt := 3227) hx hb d28 hoff ?_
    exact kk H locs hR hS
end R13
