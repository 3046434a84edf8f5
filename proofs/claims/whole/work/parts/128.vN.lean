/-! ===== next: a local array of longs ===== -/
def AN (a0 a : Nat → Nat → Nat) : Prop := ∀ r i, r ≠ 91 → a r i = a0 r i
theorem lv91 {σ : HS} {u : Unit} (h : al91 σ = some u) : lvS σ 91 0 := ⟨by decide, fun _ => al91_is h⟩
theorem fc_92l : ∀ r, r < 10 → ∀ c ∈ ftabL.getD r [], c ≠ 92 := by decide
theorem fc_92 {r k : Nat} (h : r < 10) : fcode r k ≠ 92 := by
  rcases (getD_or : (ftabL.getD r []).getD k 0 = 0 ∨ _) with e | e
  · unfold fcode; rw [e]; decide
  · exact fc_92l r h _ e
theorem slot_NL {a : Nat → Nat → Nat} {σ : HS} {q r i : Nat} (h : r ≠ 91) : slot (upA a 91 0 q) (wNL σ) r i = slot a σ r i := by
  funext j
  have e0 : gR (wNL σ) 0 = gR σ 0 := by rw [gR_wNL, if_neg (by decide)]
  have e1 : gR (wNL σ) 1 = gR σ 1 := by rw [gR_wNL, if_neg (by decide)]
  have e2 : gR (wNL σ) 2 = gR σ 2 := by rw [gR_wNL, if_neg (by decide)]
  have ex : ridx (wNL σ) r i j = ridx σ r i j := by unfold ridx; rw [e0, e1, e2]
  unfold slot
  rw [gI_wNL, gL_wNL, if_neg h, ex]
  by_cases hr : r < 10
  · rw [if_pos hr, if_pos hr]
    split
    · rfl
    · rename_i t ht
      have e : upA a 91 0 q t (ridx σ r i j) = a t (ridx σ r i j) := if_neg (fun z => by have := fc_92 (k := j) hr; omega)
      rw [e]
  · rw [if_neg hr, if_neg hr]
    split
    · rfl
    · rfl
    · rename_i t ht
      have e : upA a 91 0 q t (j + roff r) = a t (j + roff r) := if_neg (fun z => by have := ac_ne (r := r); omega)
      rw [e]
theorem Rel.newL {E : EV} {a : Nat → Nat → Nat} {σ : HS} {H H1 : Heap} (h : Rel E a σ H) (hb : eB E ≤ H.size) (o1 : ∀ q : Nat, q < H.size → H1[q]? = H[q]?) (e1 : H1[H.size]? = some (arrV (eC E 1) 4 (fun _ => .long 0))) : Rel E (upA a 91 0 H.size) (wNL σ) H1 := by
  have hlv : ∀ r i, r ≠ 91 → lvS (wNL σ) r i → lvS σ r i := fun r i hr z => ⟨z.1, fun q => absurd q hr⟩
  have hup : ∀ r i, r ≠ 91 → upA a 91 0 H.size r i = a r i := fun r i hr => if_neg (fun z => hr z.1)
  have h91 : ∀ i, lvS (wNL σ) 91 i → i = 0 := fun i z => by have e : cntS 91 = 1 := rfl; have := z.1; omega
  have hself : upA a 91 0 H.size 91 0 = H.size := if_pos ⟨rfl, rfl⟩
  refine ⟨fun r i hl => ?_, fun r1 i1 r2 i2 h1 h2 he => ?_, fun r i hl => ?_, ?_⟩
  · by_cases c : r = 91
    · subst c
      obtain rfl := h91 i hl
      unfold cellOK
      rw [if_neg (by decide), hself, e1]
      refine congrArg some (arrV_ext fun j _ => ?_)
      show Value.long 0 = Value.long (gL (wNL σ) 91 0 j)
      rw [gL_wNL, if_pos rfl]
    · have h0 := (h.1 r i (hlv _ _ c hl)).kept (o1 _ (h.lt (hlv _ _ c hl)))
      unfold cellOK at h0 ⊢
      rw [slot_NL c, hup _ _ c]
      have e : lenS (wNL σ) r i = lenS σ r i := by
        have q1 := hl.1
        unfold lenS
        by_cases h42 : r = 42
        · subst h42
          rw [if_pos rfl, if_pos rfl, gR_wNL, if_neg (by have e : cntS 42 = 7 := rfl; omega)]
        · by_cases h43 : r = 43
          · subst h43
            rw [if_neg (by decide), if_pos rfl, if_neg (by decide), if_pos rfl, gR_wNL, if_neg (by have e : cntS 43 = 7 := rfl; omega)]
          · rw [if_neg h42, if_neg h43, if_neg h42, if_neg h43]
      rw [e]
      exact h0
  · by_cases c1 : r1 = 91
    · subst c1
      obtain rfl := h91 i1 h1
      by_cases c2 : r2 = 91
      · subst c2
        exact ⟨rfl, (h91 i2 h2).symm⟩
      · rw [hself, hup _ _ c2] at he
        have := h.lt (hlv _ _ c2 h2); omega
    · by_cases c2 : r2 = 91
      · subst c2
        obtain rfl := h91 i2 h2
        rw [hself, hup _ _ c1] at he
        have := h.lt (hlv _ _ c1 h1); omega
      · rw [hup _ _ c1, hup _ _ c2] at he
        exact h.2.1 _ _ _ _ (hlv _ _ c1 h1) (hlv _ _ c2 h2) he
  · by_cases c : r = 91
    · subst c
      obtain rfl := h91 i hl
      rw [hself]; exact hb
    · rw [hup _ _ c]; exact h.2.2.1 _ _ (hlv _ _ c hl)
  · have e0 : gR (wNL σ) 0 = gR σ 0 := by rw [gR_wNL, if_neg (by decide)]
    have e1 : gR (wNL σ) 1 = gR σ 1 := by rw [gR_wNL, if_neg (by decide)]
    have e2 : gR (wNL σ) 2 = gR σ 2 := by rw [gR_wNL, if_neg (by decide)]
    rw [e0, e1, e2]
    exact h.2.2.2
def QWn (E : EV) (a0 : Nat → Nat → Nat) (rv : Option Value) (σ' : HS) : Array Value → State → Outcome → State → Prop := fun _ st o t => o = .returned rv ∧ (∃ a', AN a0 a' ∧ Rel E a' σ' t.heap) ∧ va_F (AE E) st t
def CtN (l : Launch) (E : EV) (y : MethodName) (b : ByteArray) (mL : Nat) (ret : Option FieldType) (fr lo mc ms : Nat) (a : Nat → Nat → Nat) (σ : HS) (av : List Value) (rv : Option Value) (σ' : HS) : Prop :=
  Met l y (Cond.code y b mL ret :: GW) { frames := fr, cells := mc, slots := ms, locals := lo } (va_Pc av (PW E a σ)) (QWn E a rv σ') mc ms (AE E)
theorem CtN.start {l : Launch} {E : EV} {y : MethodName} {b : ByteArray} {mL : Nat} {ret : Option FieldType} {fr lo mc ms : Nat} {a : Nat → Nat → Nat} {σ : HS} {av : List Value} {rv : Option Value} {σ' : HS} (hy : plainName y.cls = true) (hn : (lg_sl av).length ≤ mL)
    (body : ∀ (p : Program) (e : Env) (s : State) (m : MethodId) (args : Array Value) (below : List Frame) (meth : Method) (c : Code) (ls : Array Slot), Cx E p s m args meth c b mL y.cls → meth.sig.returnType = ret → Rel E a σ s.heap → va_S (AE E) s.heap s.heap [] → lv_has ls mL (lv_args 0 av) →
      W p l e { frames := fr, cells := mc, slots := ms, locals := lo } s m args below meth c s.heap [] 0 0 (MQ below (QWn E a rv σ') args s mc ms (AE E)) (F0 m 0 ls [])) : CtN l E y b mL ret fr lo mc ms a σ av rv σ' := by
  refine Met.ofW (cc := b) (maxL := mL) (ret := ret) hy rfl ?_
  intro p e s m args below meth c s₁ B hml hv
  obtain ⟨rfl, hR, hK, hKS, hsz⟩ := hv
  have hts := atoms_spec (ws := Cond.code y b mL ret :: GW) B.pre
  have C : Cx E p s m av.toArray meth c b mL y.cls := ⟨B.exec, B.bytes, hml, findClass_of_methodNamed B.named, fun w h => hts w (List.mem_cons_of_mem _ h), B.notSynchronized, hK, hKS, hsz⟩
  have hl := lv_entry av (n := mL) hn
  rw [lg_entry_eq]
  generalize (lg_sl av ++ List.replicate (mL - (lg_sl av).length) Slot.unset).toArray = ls at hl ⊢
  exact body p e s m _ below meth c ls C B.returns hR va_S.rf hl
section R9
variable {p : Program} {l : Launch} {e : Env} {R : Room} {s : State} {m : MethodId} {args : Array Value} {below : List Frame} {meth : Method} {c : Code} {H : Heap} {locs : List Loc} {cells slots mc ms : Nat} {Q : State → Prop}
variable {cc : ByteArray} {pc nL : Nat} {ls : Array Slot} {rest : List Value} {E : EV} {a a0 : Nat → Nat → Nat} {σ : HS} {own : String}
theorem e_iretN {v : Int32} (hAN : AN a0 a) (C : Cx E p s m args meth c cc nL own) (hr : meth.sig.returnType = some .int) (hR : Rel E a σ H) (hS : va_S (AE E) s.heap H locs) (hc : cells ≤ mc) (hs : slots ≤ ms) (hdg : decode cc pc = .ok (.ireturn, 1)) : W p l e R s m args below meth c H locs cells slots (MQ below (QWn E a0 (some (.int v)) σ) args s mc ms (AE E)) (F0 m pc ls [.int v]) := by
  refine W.widen (k := mc) (n := ms) hc hs ?_
  exact W.iret C.1 C.2.1 hr (fun t ht hW => ⟨rfl, ⟨a, hAN, by rw [ht]; exact hR⟩, hS.F ht⟩) hS.2.2 hdg C.2.2.2.2.2.1
theorem r_newL (C : Cx E p s m args meth c cc nL own) (hR : Rel E a σ H) (hS : va_S (AE E) s.heap H locs) (hc : cells + 1 ≤ R.cells) (hs : slots + 8 ≤ R.slots) (hd : decode cc pc = .ok (.newarray .long, 2))
    (kk : ∀ (a' : Nat → Nat → Nat) (H1 : Heap) (locs1 : List Loc), AN a a' → Rel E a' (wNL σ) H1 → va_S (AE E) s.heap H1 locs1 → W p l e R s m args below meth c H1 locs1 (cells + 1) (slots + 8) Q (F0 m (pc + 2) ls (.ref (a' 91 0) :: rest))) : W p l e R s m args below meth c H locs cells slots Q (F0 m pc ls (.int 4 :: rest)) := by
  refine va_newaK C.1 C.2.1 (atype := .long) (C.2.2.2.2.1 _ aw_long) rfl hd rfl (by decide) (N := 4) (by decide) (by decide) hc (by omega) rfl fun H1 cA e1 z1 o1 hAr hNm => ?_
  have hcA : cA = eC E 1 := Option.some.inj (hNm.symm.trans (C.2.2.2.2.2.2.1.2 1 (eC E 1, .long) rfl).2)
  subst hcA
  refine W.widen (k := cells + 1) (n := slots + 8) (Nat.le_refl _) (by omega) ?_
  have hb : eB E ≤ H.size := Nat.le_trans C.2.2.2.2.2.2.2.2 hS.1
  have k1 := kk (upA a 91 0 H.size) H1 locs (fun r i h => if_neg (fun z => h z.1)) (hR.newL hb o1 e1) ⟨Nat.le_trans hS.1 (by omega), fun q g1 g2 => (o1 q (Nat.lt_of_lt_of_le g1 hS.1)).trans (hS.2.1 q g1 g2), hS.2.2⟩
  have es : upA a 91 0 H.size 91 0 = H.size := if_pos ⟨rfl, rfl⟩
  rw [es] at k1
  exact k1
end R9
set_option maxHeartbeats 4000000 in
set_option maxRecDepth 100000 in
theorem vX9_next {l : Launch} {E : EV} {a0 : Nat → Nat → Nat} {u0 : HS}  {out : (Int32 × HS)} (h : mX9_next u0 = some out) : CtN l E yX9_next cX9_next 14 (some .int) 13 321 1 8 a0 u0 [.ref (a0 9 0)] (some (.int out.1)) out.2 := by
  refine CtN.start (by decide) (Nat.le_of_ble_eq_true rfl) ?_
  intro p e s m args below meth c ls C hr hR hS hl
  have C : Cx E p s m args meth c cX9_next 14 RX9 := C
  have hl : lv_has ls 14 [(0, .ref (a0 9 0))] := hl
  have hx := C.1
  have hb := C.2.1
  unfold mX9_next at h
  refine lv_aload_n hx hb dX9_next_0 rfl (lv_at hl 0 rfl) ?_
  refine lv_iconst (v := 0) hx hb dX9_next_1 (by decide) ?_
  refine r_putI (ty := .int) C hR hS 9 0 0 (lv0 (by decide) (by decide)) (by decide) (by decide) (fun _ => rfl) fl_X9_76 (by decide) (by decide +kernel) rfl rfl dX9_next_2 (fun H locs hR hS => ?_)
  obtain ⟨u101, eu101⟩ : ∃ z : HS, z = wI u0 9 0 0 0 := ⟨_, rfl⟩
  rw [← eu101] at hR
  replace h := bd_x eu101 h
  clear eu101
  refine lv_iconst (v := 4) hx hb dX9_next_5 (by decide) ?_
  refine r_newL C hR hS (Nat.le_of_ble_eq_true rfl) (Nat.le_of_ble_eq_true rfl) dX9_next_6 (fun a H locs hAN hR hS => ?_)
  have hl : lv_has ls 14 [(0, .ref (a 9 0))] := by rw [hAN 9 0 (by decide)]; exact hl
  obtain ⟨u102, eu102⟩ : ∃ z : HS, z = wNL u101 := ⟨_, rfl⟩
  rw [← eu102] at hR
  replace h := bd_x eu102 h
  clear eu102
  refine lv_astore_n (lv' := [(1, .ref (a 91 0)), (0, .ref (a 9 0))]) hx hb dX9_next_8 rfl hl (by decide) rfl (fun ls hl => ?_)
  refine lv_iconst (v := 0) hx hb dX9_next_9 (by decide) ?_
  refine lv_istore_n (lv' := [(2, .int 0), (1, .ref (a 91 0)), (0, .ref (a 9 0))]) hx hb dX9_next_10 rfl hl (by decide) rfl (fun ls hl => ?_)
  refine jp_cut h (fun w106 hw106 h => ?_)
  have Kw106 : ∀ (u105 : HS) (H : Heap) (locs : List Loc) (ls : Array Slot), w106 u105 = some out → Rel E a u105 H → va_S (AE E) s.heap H locs → lv_has ls 14 [(0, .ref (a 9 0)), (1, .ref (a 91 0))] → W p l e { frames := 13, cells := 1, slots := 8, locals := 321 } s m args below meth c H locs 1 8 (MQ below (QWn E a0 (some (.int out.1)) out.2) args s 1 8 (AE E)) (F0 m 33 ls []) := by
    intro u105 H locs ls h hR hS hl
    replace h := jx1 hw106 h
    refine lv_iconst (v := (-1)) hx hb dX9_next_33 (by decide) ?_
    refine lv_istore_n (lv' := [(2, .int (-1)), (0, .ref (a 9 0)), (1, .ref (a 91 0))]) hx hb dX9_next_34 rfl hl (by decide) rfl (fun ls hl => ?_)
    refine lv_lconst (v := 0) hx hb dX9_next_35 (by decide) ?_
    refine lv_lstore_n (lv' := [(3, .long 0), (2, .int (-1)), (0, .ref (a 9 0)), (1, .ref (a 91 0))]) hx hb dX9_next_36 rfl hl (by decide) rfl (fun ls hl => ?_)
    refine lv_iconst (v := 0) hx hb dX9_next_37 (by decide) ?_
    refine lv_istore (lv' := [(5, .int 0), (3, .long 0), (2, .int (-1)), (0, .ref (a 9 0)), (1, .ref (a 91 0))]) hx hb dX9_next_38 hl (by decide) rfl (fun ls hl => ?_)
    refine jp_cut h (fun w113 hw113 h => ?_)
    have Kw113 : ∀ (x111 : Int32) (u112 : HS) (H : Heap) (locs : List Loc) (ls : Array Slot), w113 x111 u112 = some out → Rel E a u112 H → va_S (AE E) s.heap H locs → lv_has ls 14 [(2, .int x111)] → W p l e { frames := 13, cells := 1, slots := 8, locals := 321 } s m args below meth c H locs 1 8 (MQ below (QWn E a0 (some (.int out.1)) out.2) args s 1 8 (AE E)) (F0 m 210 ls []) := by
      intro x111 u112 H locs ls h hR hS hl
      replace h := jx2 hw113 h
      refine lv_iload_n hx hb dX9_next_210 rfl (lv_at hl 0 rfl) ?_
      cases h
      exact e_iretN hAN C hr hR hS (Nat.le_of_ble_eq_true rfl) (Nat.le_of_ble_eq_true rfl) dX9_next_211
    have LP : ∀ (fu : Nat) (x107 : Int32) (y108 : Int64) (x109 : Int32) (u110 : HS) (H : Heap) (locs : List Loc) (ls : Array Slot), mX9_next_L40  w113 fu x107 y108 x109 u110 = some out → Rel E a u110 H → va_S (AE E) s.heap H locs → lv_has ls 14 [(0, .ref (a 9 0)), (1, .ref (a 91 0)), (2, .int x107), (3, .long y108), (5, .int x109)] → W p l e { frames := 13, cells := 1, slots := 8, locals := 321 } s m args below meth c H locs 1 8 (MQ below (QWn E a0 (some (.int out.1)) out.2) args s 1 8 (AE E)) (F0 m 40 ls []) := by
      intro fu
      induction fu with
      | zero =>
        intro x107 y108 x109 u110 H locs ls h
        have h2 : (none : Option (Int32 × HS)) = some out := h
        cases h2
      | succ fu ih =>
        intro x107 y108 x109 u110 H locs ls h hR hS hl
        rw [mX9_next_L40.eq_2] at h
        refine lv_iload hx hb dX9_next_40 (lv_at hl 4 rfl) ?_
        refine lv_aload_n hx hb dX9_next_42 rfl (lv_at hl 0 rfl) ?_
        refine r_get C hR 9 0 14 (v := .int (gI u110 9 0 14)) (lv0 (by decide) (by decide)) (by decide) (by decide) rfl fl_X9_166 dX9_next_43 ?_
        refine lv_aload_n hx hb dX9_next_46 rfl (lv_at hl 0 rfl) ?_
        refine r_get C hR 9 0 15 (v := .int (gI u110 9 0 15)) (lv0 (by decide) (by decide)) (by decide) (by decide) rfl fl_X9_179 dX9_next_47 ?_
        refine lv_imul hx hb dX9_next_50 ?_
        refine lv_icmp_ge (tgt := 210) hx hb dX9_next_51 (by decide) (fun c_114 => ?_) (fun c_114 => ?_)
        · rw [if_pos c_114] at h
          exact Kw113 _ _ _ _ _ h hR hS (lv_sub hl [2] rfl)
        · rw [if_neg c_114] at h
          refine lv_aload_n hx hb dX9_next_54 rfl (lv_at hl 0 rfl) ?_
          refine r_get C hR 9 0 16 (v := .int (gI u110 9 0 16)) (lv0 (by decide) (by decide)) (by decide) (by decide) rfl fl_X9_219 dX9_next_55 ?_
          refine lv_if_le (tgt := 210) hx hb dX9_next_58 (by decide) (fun c_115 => ?_) (fun c_115 => ?_)
          · rw [if_pos c_115] at h
            exact Kw113 _ _ _ _ _ h hR hS (lv_sub hl [2] rfl)
          · rw [if_neg c_115] at h
            refine lv_iload hx hb dX9_next_61 (lv_at hl 4 rfl) ?_
            refine lv_aload_n hx hb dX9_next_63 rfl (lv_at hl 0 rfl) ?_
            refine r_get C hR 9 0 15 (v := .int (gI u110 9 0 15)) (lv0 (by decide) (by decide)) (by decide) (by decide) rfl fl_X9_179 dX9_next_64 ?_
            obtain ⟨_, hn116, h⟩ := ob h
            refine lv_idiv hx hb dX9_next_67 (nz_ne hn116) ?_
            refine lv_topi (fun x117 ex117 => ?_)
            replace h := bd_x ex117 h
            refine lv_istore (lv' := [(6, .int x117), (0, .ref (a 9 0)), (1, .ref (a 91 0)), (2, .int x107), (3, .long y108), (5, .int x109)]) hx hb dX9_next_68 hl (by decide) rfl (fun ls hl => ?_)
            refine lv_iload hx hb dX9_next_70 (lv_at hl 5 rfl) ?_
            refine lv_aload_n hx hb dX9_next_72 rfl (lv_at hl 1 rfl) ?_
            refine r_get C hR 9 0 15 (v := .int (gI u110 9 0 15)) (lv0 (by decide) (by decide)) (by decide) (by decide) rfl fl_X9_179 dX9_next_73 ?_
            obtain ⟨_, hn118, h⟩ := ob h
            refine lv_irem hx hb dX9_next_76 (nz_ne hn118) ?_
            refine lv_topi (fun x119 ex119 => ?_)
            replace h := bd_x ex119 h
            refine lv_istore (lv' := [(7, .int x119), (6, .int x117), (0, .ref (a 9 0)), (1, .ref (a 91 0)), (2, .int x107), (3, .long y108), (5, .int x109)]) hx hb dX9_next_77 hl (by decide) rfl (fun ls hl => ?_)
            refine lv_aload_n hx hb dX9_next_79 rfl (lv_at hl 2 rfl) ?_
            refine lv_iload hx hb dX9_next_80 (lv_at hl 1 rfl) ?_
            obtain ⟨x121, hc120, h⟩ := ob h
            refine r_callV1 (As := [.int x117]) (rest := []) (r := 9) (i := 0) C (vX9_oddOf hc120) hR hS (lv0 (by decide) (by decide)) (by decide) ml_X9_263 mw_X9_oddOf rfl ⟨Nat.le_of_ble_eq_true rfl, Nat.le_of_ble_eq_true rfl, Nat.le_of_ble_eq_true rfl, Nat.le_of_ble_eq_true rfl⟩ hl.1 rfl (Nat.le_of_ble_eq_true rfl) dX9_next_82 (fun H locs hR hS => ?_)
            refine lv_iconst (v := (-1)) hx hb dX9_next_85 (by decide) ?_
            refine jp_cut h (fun j125 hj125 h => ?_)
            have Kj125 : ∀ (x122 : Int32) (y123 : Int64) (u124 : HS) (H : Heap) (locs : List Loc) (ls : Array Slot), j125 x122 y123 u124 = some out → Rel E a u124 H → va_S (AE E) s.heap H locs → lv_has ls 14 [(0, .ref (a 9 0)), (1, .ref (a 91 0)), (2, .int x122), (3, .long y123), (5, .int x109)] → W p l e { frames := 13, cells := 1, slots := 8, locals := 321 } s m args below meth c H locs 1 8 (MQ below (QWn E a0 (some (.int out.1)) out.2) args s 1 8 (AE E)) (F0 m 204 ls []) := by
              intro x122 y123 u124 H locs ls h hR hS hl
              replace h := jx3 hj125 h
              obtain ⟨x126, ex126⟩ : ∃ z : Int32, z = x109 + 1 := ⟨_, rfl⟩
              replace h := bd_x ex126 h
              refine lv_iinc (v := x126) (lv' := [(5, .int x126), (0, .ref (a 9 0)), (1, .ref (a 91 0)), (2, .int x122), (3, .long y123)]) hx hb dX9_next_204 hl (k := 4) rfl (by rw [ex126]; rfl) (by decide) rfl (fun ls hl => ?_)
              refine lv_goto (tgt := 40) hx hb dX9_next_207 (by decide) ?_
              exact ih _ _ _ _ _ _ _ h hR hS (lv_sub hl [1, 2, 3, 4, 0] rfl)
            refine lv_icmp_ne (tgt := 92) hx hb dX9_next_86 (by decide) (fun c_127 => ?_) (fun c_127 => ?_)
            · rw [if_neg c_127] at h
              refine lv_aload_n hx hb dX9_next_92 rfl (lv_at hl 2 rfl) ?_
              refine lv_bipush (v := 14) hx hb dX9_next_93 (by decide) ?_
              refine lv_iload hx hb dX9_next_95 (lv_at hl 1 rfl) ?_
              refine lv_iload hx hb dX9_next_97 (lv_at hl 0 rfl) ?_
              refine lv_iconst (v := 0) hx hb dX9_next_99 (by decide) ?_
              obtain ⟨u129, hc128, h⟩ := ob h
              refine r_callV0 (As := [.int 14, .int x117, .int x119, .int 0]) (rest := []) (r := 9) (i := 0) C (vX9_comes hc128) hR hS (lv0 (by decide) (by decide)) (by decide) ml_X9_291 mw_X9_comes rfl ⟨Nat.le_of_ble_eq_true rfl, Nat.le_of_ble_eq_true rfl, Nat.le_of_ble_eq_true rfl, Nat.le_of_ble_eq_true rfl⟩ hl.1 rfl (Nat.le_of_ble_eq_true rfl) dX9_next_100 (fun H locs hR hS => ?_)
              refine lv_lconst (v := 0) hx hb dX9_next_103 (by decide) ?_
              refine lv_lstore (lv' := [(8, .long 0), (7, .int x119), (6, .int x117), (0, .ref (a 9 0)), (1, .ref (a 91 0)), (2, .int x107), (3, .long y108), (5, .int x109)]) hx hb dX9_next_104 hl (by decide) rfl (fun ls hl => ?_)
              refine lv_lconst (v := 0) hx hb dX9_next_106 (by decide) ?_
              refine lv_lstore (lv' := [(10, .long 0), (8, .long 0), (7, .int x119), (6, .int x117), (0, .ref (a 9 0)), (1, .ref (a 91 0)), (2, .int x107), (3, .long y108), (5, .int x109)]) hx hb dX9_next_107 hl (by decide) rfl (fun ls hl => ?_)
              refine lv_iconst (v := 0) hx hb dX9_next_109 (by decide) ?_
              refine lv_istore (lv' := [(12, .int 0), (10, .long 0), (8, .long 0), (7, .int x119), (6, .int x117), (0, .ref (a 9 0)), (1, .ref (a 91 0)), (2, .int x107), (3, .long y108), (5, .int x109)]) hx hb dX9_next_110 hl (by decide) rfl (fun ls hl => ?_)
              refine jp_cut h (fun w137 hw137 h => ?_)
              have Kw137 : ∀ (y134 : Int64) (y135 : Int64) (u136 : HS) (H : Heap) (locs : List Loc) (ls : Array Slot), w137 y134 y135 u136 = some out → Rel E a u136 H → va_S (AE E) s.heap H locs → lv_has ls 14 [(0, .ref (a 9 0)), (1, .ref (a 91 0)), (2, .int x107), (3, .long y108), (5, .int x109), (6, .int x117), (7, .int x119), (8, .long y134), (10, .long y135)] → W p l e { frames := 13, cells := 1, slots := 8, locals := 321 } s m args below meth c H locs 1 8 (MQ below (QWn E a0 (some (.int out.1)) out.2) args s 1 8 (AE E)) (F0 m 160 ls []) := by
                intro y134 y135 u136 H locs ls h hR hS hl
                replace h := jx3 hw137 h
                refine lv_lload hx hb dX9_next_160 (lv_at hl 7 rfl) ?_
                refine lv_lload hx hb dX9_next_162 (lv_at hl 8 rfl) ?_
                refine W.lcmp hx hb dX9_next_164 ?_
                obtain ⟨y138, hz, h⟩ := ob h
                have Kj139 : ∀ (H : Heap) (locs : List Loc) (ls : Array Slot), Rel E a u136 H → va_S (AE E) s.heap H locs → lv_has ls 14 [(0, .ref (a 9 0)), (1, .ref (a 91 0)), (2, .int x107), (3, .long y108), (5, .int x109), (6, .int x117), (7, .int x119)] → W p l e { frames := 13, cells := 1, slots := 8, locals := 321 } s m args below meth c H locs 1 8 (MQ below (QWn E a0 (some (.int out.1)) out.2) args s 1 8 (AE E)) (F0 m 175 ls [.long y138]) := by
                  intro H locs ls hR hS hl
                  clear hz
                  refine lv_lstore (lv' := [(12, .long y138), (0, .ref (a 9 0)), (1, .ref (a 91 0)), (2, .int x107), (3, .long y108), (5, .int x109), (6, .int x117), (7, .int x119)]) hx hb dX9_next_175 hl (by decide) rfl (fun ls hl => ?_)
                  refine lv_iload_n hx hb dX9_next_177 rfl (lv_at hl 3 rfl) ?_
                  refine lv_iconst (v := (-1)) hx hb dX9_next_178 (by decide) ?_
                  refine jp_cut h (fun j140 hj140 h => ?_)
                  have Kj140 : ∀  (H : Heap) (locs : List Loc) (ls : Array Slot), j140 = some out → Rel E a u136 H → va_S (AE E) s.heap H locs → lv_has ls 14 [(0, .ref (a 9 0)), (1, .ref (a 91 0)), (5, .int x109), (6, .int x117), (7, .int x119), (12, .long y138)] → W p l e { frames := 13, cells := 1, slots := 8, locals := 321 } s m args below meth c H locs 1 8 (MQ below (QWn E a0 (some (.int out.1)) out.2) args s 1 8 (AE E)) (F0 m 192 ls []) := by
                    intro  H locs ls h hR hS hl
                    replace h := jx0 hj140 h
                    refine lv_bipush (v := 10) hx hb dX9_next_192 (by decide) ?_
                    refine lv_iload hx hb dX9_next_194 (lv_at hl 3 rfl) ?_
                    refine lv_imul hx hb dX9_next_196 ?_
                    refine lv_iload hx hb dX9_next_197 (lv_at hl 4 rfl) ?_
                    refine lv_iadd hx hb dX9_next_199 ?_
                    refine lv_topi (fun x141 ex141 => ?_)
                    replace h := bd_x ex141 h
                    refine lv_istore_n (lv' := [(2, .int x141), (0, .ref (a 9 0)), (1, .ref (a 91 0)), (5, .int x109), (6, .int x117), (7, .int x119), (12, .long y138)]) hx hb dX9_next_200 rfl hl (by decide) rfl (fun ls hl => ?_)
                    refine lv_lload hx hb dX9_next_201 (lv_at hl 6 rfl) ?_
                    refine lv_lstore_n (lv' := [(3, .long y138), (2, .int x141), (0, .ref (a 9 0)), (1, .ref (a 91 0)), (5, .int x109), (6, .int x117), (7, .int x119), (12, .long y138)]) hx hb dX9_next_203 rfl hl (by decide) rfl (fun ls hl => ?_)
                    exact Kj125 _ _ _ _ _ _ h hR hS (lv_sub hl [2, 3, 1, 0, 4] rfl)
                  refine lv_icmp_eq (tgt := 192) hx hb dX9_next_179 (by decide) (fun c_142 => ?_) (fun c_142 => ?_)
                  · rw [if_pos c_142] at h
                    exact Kj140  _ _ _ h hR hS (lv_sub hl [1, 2, 5, 6, 7, 0] rfl)
                  · rw [if_neg c_142] at h
                    refine lv_lload hx hb dX9_next_182 (lv_at hl 0 rfl) ?_
                    refine lv_lload_n hx hb dX9_next_184 rfl (lv_at hl 4 rfl) ?_
                    refine W.lcmp hx hb dX9_next_185 ?_
                    refine lv_if_gt (tgt := 192) hx hb dX9_next_186 (by decide) (fun c_143 => ?_) (fun c_143 => ?_)
                    · rw [if_pos c_143] at h
                      exact Kj140  _ _ _ h hR hS (lv_sub hl [1, 2, 5, 6, 7, 0] rfl)
                    · rw [if_neg c_143] at h
                      refine lv_goto (tgt := 204) hx hb dX9_next_189 (by decide) ?_
                      exact Kj125 _ _ _ _ _ _ h hR hS (lv_sub hl [1, 2, 3, 4, 5] rfl)
                clear h
                have h := hz
                clear hz
                refine lv_if_ge (tgt := 173) hx hb dX9_next_165 (by decide) (fun c_144 => ?_) (fun c_144 => ?_)
                · rw [if_pos c_144] at h
                  refine lv_lload hx hb dX9_next_173 (lv_at hl 8 rfl) ?_
                  cases h
                  exact Kj139 _ _ _ hR hS (lv_sub hl [0, 1, 2, 3, 4, 5, 6] rfl)
                · rw [if_neg c_144] at h
                  refine lv_lload hx hb dX9_next_168 (lv_at hl 7 rfl) ?_
                  refine lv_goto (tgt := 175) hx hb dX9_next_170 (by decide) ?_
                  cases h
                  exact Kj139 _ _ _ hR hS (lv_sub hl [0, 1, 2, 3, 4, 5, 6] rfl)
              have LP : ∀ (fu : Nat) (y130 : Int64) (y131 : Int64) (x132 : Int32) (u133 : HS) (H : Heap) (locs : List Loc) (ls : Array Slot), mX9_next_L112  w137 fu y130 y131 x132 u133 = some out → Rel E a u133 H → va_S (AE E) s.heap H locs → lv_has ls 14 [(0, .ref (a 9 0)), (1, .ref (a 91 0)), (2, .int x107), (3, .long y108), (5, .int x109), (6, .int x117), (7, .int x119), (8, .long y130), (10, .long y131), (12, .int x132)] → W p l e { frames := 13, cells := 1, slots := 8, locals := 321 } s m args below meth c H locs 1 8 (MQ below (QWn E a0 (some (.int out.1)) out.2) args s 1 8 (AE E)) (F0 m 112 ls []) := by
                intro fu
                induction fu with
                | zero =>
                  intro y130 y131 x132 u133 H locs ls h
                  have h2 : (none : Option (Int32 × HS)) = some out := h
                  cases h2
                | succ fu ih =>
                  intro y130 y131 x132 u133 H locs ls h hR hS hl
                  rw [mX9_next_L112.eq_2] at h
                  refine lv_iload hx hb dX9_next_112 (lv_at hl 9 rfl) ?_
                  refine lv_aload_n hx hb dX9_next_114 rfl (lv_at hl 0 rfl) ?_
                  refine r_get C hR 9 0 16 (v := .int (gI u133 9 0 16)) (lv0 (by decide) (by decide)) (by decide) (by decide) rfl fl_X9_219 dX9_next_115 ?_
                  refine lv_icmp_ge (tgt := 160) hx hb dX9_next_118 (by decide) (fun c_145 => ?_) (fun c_145 => ?_)
                  · rw [if_pos c_145] at h
                    exact Kw137 _ _ _ _ _ _ h hR hS (lv_sub hl [0, 1, 2, 3, 4, 5, 6, 7, 8] rfl)
                  · rw [if_neg c_145] at h
                    refine lv_aload_n hx hb dX9_next_121 rfl (lv_at hl 0 rfl) ?_
                    refine lv_iload hx hb dX9_next_122 (lv_at hl 9 rfl) ?_
                    refine lv_bipush (v := 14) hx hb dX9_next_124 (by decide) ?_
                    refine lv_iconst (v := 0) hx hb dX9_next_126 (by decide) ?_
                    obtain ⟨⟨x147, u148⟩, hc146, h⟩ := ob h
                    replace h := bd_x (x := x147) rfl h
                    replace h := bd_x (x := u148) rfl h
                    refine r_callV1 (As := [.int x132, .int 14, .int 0]) (rest := []) (r := 9) (i := 0) C (vX9_saysBy hc146) hR hS (lv0 (by decide) (by decide)) (by decide) ml_X9_369 mw_X9_saysBy rfl ⟨Nat.le_of_ble_eq_true rfl, Nat.le_of_ble_eq_true rfl, Nat.le_of_ble_eq_true rfl, Nat.le_of_ble_eq_true rfl⟩ hl.1 rfl (Nat.le_of_ble_eq_true rfl) dX9_next_127 (fun H locs hR hS => ?_)
                    refine jp_cut h (fun j151 hj151 h => ?_)
                    have Kj151 : ∀ (y149 : Int64) (y150 : Int64) (H : Heap) (locs : List Loc) (ls : Array Slot), j151 y149 y150 = some out → Rel E a u148 H → va_S (AE E) s.heap H locs → lv_has ls 14 [(0, .ref (a 9 0)), (1, .ref (a 91 0)), (2, .int x107), (3, .long y108), (5, .int x109), (6, .int x117), (7, .int x119), (8, .long y149), (10, .long y150), (12, .int x132)] → W p l e { frames := 13, cells := 1, slots := 8, locals := 321 } s m args below meth c H locs 1 8 (MQ below (QWn E a0 (some (.int out.1)) out.2) args s 1 8 (AE E)) (F0 m 154 ls []) := by
                      intro y149 y150 H locs ls h hR hS hl
                      replace h := jx2 hj151 h
                      obtain ⟨x152, ex152⟩ : ∃ z : Int32, z = x132 + 1 := ⟨_, rfl⟩
                      replace h := bd_x ex152 h
                      refine lv_iinc (v := x152) (lv' := [(12, .int x152), (0, .ref (a 9 0)), (1, .ref (a 91 0)), (2, .int x107), (3, .long y108), (5, .int x109), (6, .int x117), (7, .int x119), (8, .long y149), (10, .long y150)]) hx hb dX9_next_154 hl (k := 9) rfl (by rw [ex152]; rfl) (by decide) rfl (fun ls hl => ?_)
                      refine lv_goto (tgt := 112) hx hb dX9_next_157 (by decide) ?_
                      exact ih _ _ _ _ _ _ _ h hR hS (lv_sub hl [1, 2, 3, 4, 5, 6, 7, 8, 9, 0] rfl)
                    refine lv_if_eq (tgt := 145) hx hb dX9_next_130 (by decide) (fun c_153 => ?_) (fun c_153 => ?_)
                    · rw [if_pos c_153] at h
                      refine lv_lload hx hb dX9_next_145 (lv_at hl 8 rfl) ?_
                      refine lv_aload_n hx hb dX9_next_147 rfl (lv_at hl 1 rfl) ?_
                      refine lv_iload hx hb dX9_next_148 (lv_at hl 9 rfl) ?_
                      obtain ⟨_, ha154, h⟩ := ob h
                      obtain ⟨k155, hk155, h⟩ := ob h
                      refine r_lald C hR 91 0 (lv91 ha154) (by decide) rfl (fun _ => rfl) rfl hk155 dX9_next_150 ?_
                      refine lv_ladd hx hb dX9_next_151 ?_
                      refine lv_topl (fun y156 ey156 => ?_)
                      replace h := bd_x ey156 h
                      refine lv_lstore (lv' := [(10, .long y156), (0, .ref (a 9 0)), (1, .ref (a 91 0)), (2, .int x107), (3, .long y108), (5, .int x109), (6, .int x117), (7, .int x119), (8, .long y130), (12, .int x132)]) hx hb dX9_next_152 hl (by decide) rfl (fun ls hl => ?_)
                      exact Kj151 _ _ _ _ _ h hR hS (lv_sub hl [1, 2, 3, 4, 5, 6, 7, 8, 0, 9] rfl)
                    · rw [if_neg c_153] at h
                      refine lv_lload hx hb dX9_next_133 (lv_at hl 7 rfl) ?_
                      refine lv_aload_n hx hb dX9_next_135 rfl (lv_at hl 1 rfl) ?_
                      refine lv_iload hx hb dX9_next_136 (lv_at hl 9 rfl) ?_
                      obtain ⟨_, ha157, h⟩ := ob h
                      obtain ⟨k158, hk158, h⟩ := ob h
                      refine r_lald C hR 91 0 (lv91 ha157) (by decide) rfl (fun _ => rfl) rfl hk158 dX9_next_138 ?_
                      refine lv_ladd hx hb dX9_next_139 ?_
                      refine lv_topl (fun y159 ey159 => ?_)
                      replace h := bd_x ey159 h
                      refine lv_lstore (lv' := [(8, .long y159), (0, .ref (a 9 0)), (1, .ref (a 91 0)), (2, .int x107), (3, .long y108), (5, .int x109), (6, .int x117), (7, .int x119), (10, .long y131), (12, .int x132)]) hx hb dX9_next_140 hl (by decide) rfl (fun ls hl => ?_)
                      refine lv_goto (tgt := 154) hx hb dX9_next_142 (by decide) ?_
                      exact Kj151 _ _ _ _ _ h hR hS (lv_sub hl [1, 2, 3, 4, 5, 6, 7, 0, 8, 9] rfl)
              exact LP FU _ _ _ _ _ _ _ h hR hS (lv_sub hl [5, 6, 7, 8, 9, 4, 3, 2, 1, 0] rfl)
            · rw [if_pos c_127] at h
              refine lv_goto (tgt := 204) hx hb dX9_next_89 (by decide) ?_
              exact Kj125 _ _ _ _ _ _ h hR hS (lv_sub hl [2, 3, 4, 5, 6] rfl)
    exact LP FU _ _ _ _ _ _ _ h hR hS (lv_sub hl [3, 4, 2, 1, 0] rfl)
  have LP : ∀ (fu : Nat) (x103 : Int32) (u104 : HS) (H : Heap) (locs : List Loc) (ls : Array Slot), mX9_next_L11  w106 fu x103 u104 = some out → Rel E a u104 H → va_S (AE E) s.heap H locs → lv_has ls 14 [(0, .ref (a 9 0)), (1, .ref (a 91 0)), (2, .int x103)] → W p l e { frames := 13, cells := 1, slots := 8, locals := 321 } s m args below meth c H locs 1 8 (MQ below (QWn E a0 (some (.int out.1)) out.2) args s 1 8 (AE E)) (F0 m 11 ls []) := by
    intro fu
    induction fu with
    | zero =>
      intro x103 u104 H locs ls h
      have h2 : (none : Option (Int32 × HS)) = some out := h
      cases h2
    | succ fu ih =>
      intro x103 u104 H locs ls h hR hS hl
      rw [mX9_next_L11.eq_2] at h
      refine lv_iload_n hx hb dX9_next_11 rfl (lv_at hl 2 rfl) ?_
      refine lv_aload_n hx hb dX9_next_12 rfl (lv_at hl 0 rfl) ?_
      refine r_get C hR 9 0 16 (v := .int (gI u104 9 0 16)) (lv0 (by decide) (by decide)) (by decide) (by decide) rfl fl_X9_219 dX9_next_13 ?_
      refine lv_icmp_ge (tgt := 33) hx hb dX9_next_16 (by decide) (fun c_160 => ?_) (fun c_160 => ?_)
      · rw [if_pos c_160] at h
        exact Kw106 _ _ _ _ h hR hS (lv_sub hl [0, 1] rfl)
      · rw [if_neg c_160] at h
        refine lv_aload_n hx hb dX9_next_19 rfl (lv_at hl 1 rfl) ?_
        refine lv_iload_n hx hb dX9_next_20 rfl (lv_at hl 2 rfl) ?_
        refine lv_aload_n hx hb dX9_next_21 rfl (lv_at hl 0 rfl) ?_
        refine lv_iload_n hx hb dX9_next_22 rfl (lv_at hl 2 rfl) ?_
        obtain ⟨⟨y162, u163⟩, hc161, h⟩ := ob h
        replace h := bd_x (x := y162) rfl h
        replace h := bd_x (x := u163) rfl h
        refine r_callV1 (As := [.int x103]) (rest := [.int x103, .ref (a 91 0)]) (r := 9) (i := 0) C (vX9_oddsOf hc161) hR hS (lv0 (by decide) (by decide)) (by decide) ml_X9_413 mw_X9_oddsOf rfl ⟨Nat.le_of_ble_eq_true rfl, Nat.le_of_ble_eq_true rfl, Nat.le_of_ble_eq_true rfl, Nat.le_of_ble_eq_true rfl⟩ hl.1 rfl (Nat.le_of_ble_eq_true rfl) dX9_next_23 (fun H locs hR hS => ?_)
        obtain ⟨_, ha164, h⟩ := ob h
        obtain ⟨k165, hk165, h⟩ := ob h
        refine r_last C hR hS 91 0 (lv91 ha164) (by decide) rfl (fun _ _ => rfl) rfl hk165 dX9_next_26 (fun H locs hR hS => ?_)
        obtain ⟨u166, eu166⟩ : ∃ z : HS, z = wL u163 91 0 k165 y162 := ⟨_, rfl⟩
        rw [← eu166] at hR
        replace h := bd_x eu166 h
        clear eu166
        obtain ⟨x167, ex167⟩ : ∃ z : Int32, z = x103 + 1 := ⟨_, rfl⟩
        replace h := bd_x ex167 h
        refine lv_iinc (v := x167) (lv' := [(2, .int x167), (0, .ref (a 9 0)), (1, .ref (a 91 0))]) hx hb dX9_next_27 hl (k := 2) rfl (by rw [ex167]; rfl) (by decide) rfl (fun ls hl => ?_)
        refine lv_goto (tgt := 11) hx hb dX9_next_30 (by decide) ?_
        exact ih _ _ _ _ _ h hR hS (lv_sub hl [1, 2, 0] rfl)
  exact LP FU _ _ _ _ _ h hR hS (lv_sub hl [2, 1, 0] rfl)
