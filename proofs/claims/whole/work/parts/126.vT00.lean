set_option maxHeartbeats 4000000 in
set_option maxRecDepth 100000 in
theorem vX8_require {l : Launch} (hfl : l.stackTraces = false) {E : EV} {a : Nat → Nat → Nat} {u0 : HS} {x0 : Int32} {out : Nat} (h : mX8_require x0 = some out) : CtX l E yX8_require cX8_require 1 none 6 90 1 6 a u0 [.int x0] out none u0 := by
  refine CtX.start (by decide) (Nat.le_of_ble_eq_true rfl) ?_
  intro p e s m args below meth c ls hT0 C hr hR hS hl
  have C : Cx E p s m args meth c cX8_require 1 RX8 := C
  have hl : lv_has ls 1 [(0, .int x0)] := hl
  have hx := C.1
  have hb := C.2.1
  unfold mX8_require at h
  refine lv_iload_n hx hb dX8_require_0 rfl (lv_at hl 0 rfl) ?_
  refine lv_if_ne (tgt := 12) hx hb dX8_require_1 (by decide) (fun c_101 => ?_) (fun c_101 => ?_)
  · rw [if_neg c_101] at h
    cases h
    exact x_ret (e_vret C hr hR hS (Nat.le_of_ble_eq_true rfl) (Nat.le_of_ble_eq_true rfl) dX8_require_12)
  · rw [if_pos c_101] at h
    cases h
    exact r_throw1 hfl C hT0 hR hS hl.1 dX8_require_4 dX8_require_7 dX8_require_8 dX8_require_11 (Nat.le_of_ble_eq_true rfl) (Nat.le_of_ble_eq_true rfl) (Nat.le_of_ble_eq_true rfl) (Nat.le_of_ble_eq_true rfl) (Nat.le_of_ble_eq_true rfl) (Nat.le_of_ble_eq_true rfl)
set_option maxHeartbeats 4000000 in
set_option maxRecDepth 100000 in
theorem vX3_settle {l : Launch} {E : EV} {a0 : Nat → Nat → Nat} {u0 : HS} {i0 : Nat} {out : HS} (hi0 : i0 < cntS 3) (h : mX3_settle u0 i0 = some out) : CtE l E yX3_settle cX3_settle 3 none 2 48 2 4800 a0 u0 [.ref (a0 3 i0)] none out := by
  refine CtE.start (by decide) (Nat.le_of_ble_eq_true rfl) ?_
  intro p e s m args below meth c ls C hr hR hS hl
  have C : Cx E p s m args meth c cX3_settle 3 RX3 := C
  obtain ⟨a, hAG, hR, hl⟩ : ∃ a : Nat → Nat → Nat, AG a0 a ∧ Rel E a u0 s.heap ∧ lv_has ls 3 [(0, .ref (a 3 i0))] := ⟨a0, AG.rf, hR, hl⟩
  have hx := C.1
  have hb := C.2.1
  unfold mX3_settle at h
  refine lv_aload_n hx hb dX3_settle_0 rfl (lv_at hl 0 rfl) ?_
  refine lv_aload_n hx hb dX3_settle_1 rfl (lv_at hl 0 rfl) ?_
  refine r_get C hR 3 i0 0 (v := .int (gI u0 3 i0 0)) (lv0 hi0 (by decide)) (by decide) (by decide) rfl fl_X3_9 dX3_settle_2 ?_
  refine lv_sipush (v := 300) hx hb dX3_settle_5 (by decide) ?_
  refine lv_imul hx hb dX3_settle_8 ?_
  obtain ⟨k101, hk101, h⟩ := ob h
  refine r_new42 hAG C hR hS hi0 hk101 (Nat.le_of_ble_eq_true rfl) (Nat.le_of_ble_eq_true rfl) fl_X3_49 dX3_settle_9 dX3_settle_11 (fun a H locs hAG hag hR hS => ?_)
  have hl : lv_has ls 3 [(0, .ref (a 3 i0))] := by rw [hag 3 i0 (by decide) (by decide)]; exact hl
  obtain ⟨u102, eu102⟩ : ∃ z : HS, z = wN u0 42 i0 3 k101 := ⟨_, rfl⟩
  rw [← eu102] at hR
  replace h := bd_x eu102 h
  clear eu102
  refine lv_aload_n hx hb dX3_settle_14 rfl (lv_at hl 0 rfl) ?_
  refine lv_aload_n hx hb dX3_settle_15 rfl (lv_at hl 0 rfl) ?_
  refine r_get C hR 3 i0 0 (v := .int (gI u102 3 i0 0)) (lv0 hi0 (by decide)) (by decide) (by decide) rfl fl_X3_9 dX3_settle_16 ?_
  refine lv_sipush (v := 300) hx hb dX3_settle_19 (by decide) ?_
  refine lv_imul hx hb dX3_settle_22 ?_
  obtain ⟨k103, hk103, h⟩ := ob h
  refine r_new43 hAG C hR hS hi0 hk103 (Nat.le_of_ble_eq_true rfl) (Nat.le_of_ble_eq_true rfl) fl_X3_52 dX3_settle_23 dX3_settle_25 (fun a H locs hAG hag hR hS => ?_)
  have hl : lv_has ls 3 [(0, .ref (a 3 i0))] := by rw [hag 3 i0 (by decide) (by decide)]; exact hl
  obtain ⟨u104, eu104⟩ : ∃ z : HS, z = wN u102 43 i0 10 k103 := ⟨_, rfl⟩
  rw [← eu104] at hR
  replace h := bd_x eu104 h
  clear eu104
  refine lv_iconst (v := 0) hx hb dX3_settle_28 (by decide) ?_
  refine lv_istore_n (lv' := [(1, .int 0), (0, .ref (a 3 i0))]) hx hb dX3_settle_29 rfl hl (by decide) rfl (fun ls hl => ?_)
  refine jp_cut h (fun w108 hw108 h => ?_)
  have Kw108 : ∀ (u107 : HS) (H : Heap) (locs : List Loc) (ls : Array Slot), w108 u107 = some out → Rel E a u107 H → va_S (AE E) s.heap H locs → lv_has ls 3 [(0, .ref (a 3 i0))] → W p l e { frames := 2, cells := 2, slots := 4800, locals := 48 } s m args below meth c H locs 2 4800 (MQ below (QWe E a0 none out) args s 2 4800 (AE E)) (F0 m 62 ls []) := by
    intro u107 H locs ls h hR hS hl
    replace h := jx1 hw108 h
    refine lv_iconst (v := 0) hx hb dX3_settle_62 (by decide) ?_
    refine lv_istore_n (lv' := [(1, .int 0), (0, .ref (a 3 i0))]) hx hb dX3_settle_63 rfl hl (by decide) rfl (fun ls hl => ?_)
    refine jp_cut h (fun w112 hw112 h => ?_)
    have Kw112 : ∀ (u111 : HS) (H : Heap) (locs : List Loc) (ls : Array Slot), w112 u111 = some out → Rel E a u111 H → va_S (AE E) s.heap H locs → lv_has ls 3 [(0, .ref (a 3 i0))] → W p l e { frames := 2, cells := 2, slots := 4800, locals := 48 } s m args below meth c H locs 2 4800 (MQ below (QWe E a0 none out) args s 2 4800 (AE E)) (F0 m 86 ls []) := by
      intro u111 H locs ls h hR hS hl
      replace h := jx1 hw112 h
      refine lv_iconst (v := 0) hx hb dX3_settle_86 (by decide) ?_
      refine lv_istore_n (lv' := [(1, .int 0), (0, .ref (a 3 i0))]) hx hb dX3_settle_87 rfl hl (by decide) rfl (fun ls hl => ?_)
      refine jp_cut h (fun w116 hw116 h => ?_)
      have Kw116 : ∀ (u115 : HS) (H : Heap) (locs : List Loc) (ls : Array Slot), w116 u115 = some out → Rel E a u115 H → va_S (AE E) s.heap H locs → lv_has ls 3 [(0, .ref (a 3 i0))] → W p l e { frames := 2, cells := 2, slots := 4800, locals := 48 } s m args below meth c H locs 2 4800 (MQ below (QWe E a0 none out) args s 2 4800 (AE E)) (F0 m 138 ls []) := by
        intro u115 H locs ls h hR hS hl
        replace h := jx1 hw116 h
        refine lv_iconst (v := 0) hx hb dX3_settle_138 (by decide) ?_
        refine lv_istore_n (lv' := [(1, .int 0), (0, .ref (a 3 i0))]) hx hb dX3_settle_139 rfl hl (by decide) rfl (fun ls hl => ?_)
        refine jp_cut h (fun w120 hw120 h => ?_)
        have Kw120 : ∀ (u119 : HS) (H : Heap) (locs : List Loc) (ls : Array Slot), w120 u119 = some out → Rel E a u119 H → va_S (AE E) s.heap H locs → lv_has ls 3 [] → W p l e { frames := 2, cells := 2, slots := 4800, locals := 48 } s m args below meth c H locs 2 4800 (MQ below (QWe E a0 none out) args s 2 4800 (AE E)) (F0 m 159 ls []) := by
          intro u119 H locs ls h hR hS hl
          replace h := jx1 hw120 h
          cases h
          exact e_vretE hAG C hr hR hS (Nat.le_of_ble_eq_true rfl) (Nat.le_of_ble_eq_true rfl) dX3_settle_159
        have LP : ∀ (fu : Nat) (x117 : Int32) (u118 : HS) (H : Heap) (locs : List Loc) (ls : Array Slot), mX3_settle_L140 i0 w120 fu x117 u118 = some out → Rel E a u118 H → va_S (AE E) s.heap H locs → lv_has ls 3 [(0, .ref (a 3 i0)), (1, .int x117)] → W p l e { frames := 2, cells := 2, slots := 4800, locals := 48 } s m args below meth c H locs 2 4800 (MQ below (QWe E a0 none out) args s 2 4800 (AE E)) (F0 m 140 ls []) := by
          intro fu
          induction fu with
          | zero =>
            intro x117 u118 H locs ls h
            have h2 : (none : Option HS) = some out := h
            cases h2
          | succ fu ih =>
            intro x117 u118 H locs ls h hR hS hl
            rw [mX3_settle_L140.eq_2] at h
            refine lv_iload_n hx hb dX3_settle_140 rfl (lv_at hl 1 rfl) ?_
            refine lv_aload_n hx hb dX3_settle_141 rfl (lv_at hl 0 rfl) ?_
            refine r_get C hR 3 i0 0 (v := .int (gI u118 3 i0 0)) (lv0 hi0 (by decide)) (by decide) (by decide) rfl fl_X3_9 dX3_settle_142 ?_
            refine lv_icmp_ge (tgt := 159) hx hb dX3_settle_145 (by decide) (fun c_121 => ?_) (fun c_121 => ?_)
            · rw [if_pos c_121] at h
              exact Kw120 _ _ _ _ h hR hS (lv_sub hl [] rfl)
            · rw [if_neg c_121] at h
              refine lv_aload_n hx hb dX3_settle_148 rfl (lv_at hl 0 rfl) ?_
              refine lv_iload_n hx hb dX3_settle_149 rfl (lv_at hl 1 rfl) ?_
              obtain ⟨u123, hc122, h⟩ := ob h
              refine r_callV0 (As := [.int x117]) (rest := []) (r := 3) (i := i0) C (vX3_settleTints hi0 hc122) hR hS (lv0 hi0 (by decide)) (by decide) ml_X3_106 mw_X3_settleTints rfl ⟨Nat.le_of_ble_eq_true rfl, Nat.le_of_ble_eq_true rfl, Nat.le_of_ble_eq_true rfl, Nat.le_of_ble_eq_true rfl⟩ hl.1 rfl (Nat.le_of_ble_eq_true rfl) dX3_settle_150 (fun H locs hR hS => ?_)
              obtain ⟨x124, ex124⟩ : ∃ z : Int32, z = x117 + 1 := ⟨_, rfl⟩
              replace h := bd_x ex124 h
              refine lv_iinc (v := x124) (lv' := [(1, .int x124), (0, .ref (a 3 i0))]) hx hb dX3_settle_153 hl (k := 1) rfl (by rw [ex124]; rfl) (by decide) rfl (fun ls hl => ?_)
              refine lv_goto (tgt := 140) hx hb dX3_settle_156 (by decide) ?_
              exact ih _ _ _ _ _ h hR hS (lv_sub hl [1, 0] rfl)
        exact LP FU _ _ _ _ _ h hR hS (lv_sub hl [1, 0] rfl)
      have LP : ∀ (fu : Nat) (x113 : Int32) (u114 : HS) (H : Heap) (locs : List Loc) (ls : Array Slot), mX3_settle_L88 i0 w116 fu x113 u114 = some out → Rel E a u114 H → va_S (AE E) s.heap H locs → lv_has ls 3 [(0, .ref (a 3 i0)), (1, .int x113)] → W p l e { frames := 2, cells := 2, slots := 4800, locals := 48 } s m args below meth c H locs 2 4800 (MQ below (QWe E a0 none out) args s 2 4800 (AE E)) (F0 m 88 ls []) := by
        intro fu
        induction fu with
        | zero =>
          intro x113 u114 H locs ls h
          have h2 : (none : Option HS) = some out := h
          cases h2
        | succ fu ih =>
          intro x113 u114 H locs ls h hR hS hl
          rw [mX3_settle_L88.eq_2] at h
          refine lv_iload_n hx hb dX3_settle_88 rfl (lv_at hl 1 rfl) ?_
          refine lv_aload_n hx hb dX3_settle_89 rfl (lv_at hl 0 rfl) ?_
          refine r_get C hR 3 i0 7 (v := .int (gI u114 3 i0 7)) (lv0 hi0 (by decide)) (by decide) (by decide) rfl fl_X3_34 dX3_settle_90 ?_
          refine lv_icmp_ge (tgt := 138) hx hb dX3_settle_93 (by decide) (fun c_125 => ?_) (fun c_125 => ?_)
          · rw [if_pos c_125] at h
            exact Kw116 _ _ _ _ h hR hS (lv_sub hl [0] rfl)
          · rw [if_neg c_125] at h
            refine lv_iload_n hx hb dX3_settle_96 rfl (lv_at hl 1 rfl) ?_
            refine lv_iconst (v := 3) hx hb dX3_settle_97 (by decide) ?_
            refine lv_imul hx hb dX3_settle_98 ?_
            refine lv_topi (fun x126 ex126 => ?_)
            replace h := bd_x ex126 h
            refine lv_istore_n (lv' := [(2, .int x126), (0, .ref (a 3 i0)), (1, .int x113)]) hx hb dX3_settle_99 rfl hl (by decide) rfl (fun ls hl => ?_)
            refine lv_aload_n hx hb dX3_settle_100 rfl (lv_at hl 1 rfl) ?_
            refine r_get C hR 3 i0 13 (v := .ref (a 43 i0)) (lv0 hi0 (by decide)) (by decide) (by decide) rfl fl_X3_52 dX3_settle_101 ?_
            refine lv_aload_n hx hb dX3_settle_104 rfl (lv_at hl 1 rfl) ?_
            refine r_get C hR 3 i0 8 (v := .ref (a 41 i0)) (lv0 hi0 (by decide)) (by decide) (by decide) rfl fl_X3_37 dX3_settle_105 ?_
            refine lv_iload_n hx hb dX3_settle_108 rfl (lv_at hl 0 rfl) ?_
            obtain ⟨k127, hk127, h⟩ := ob h
            refine r_ald C hR 41 i0 (lv0 hi0 (by decide)) (by decide) rfl (fun _ => rfl) rfl hk127 dX3_settle_109 ?_
            refine lv_sipush (v := 300) hx hb dX3_settle_110 (by decide) ?_
            refine lv_imul hx hb dX3_settle_113 ?_
            refine lv_aload_n hx hb dX3_settle_114 rfl (lv_at hl 1 rfl) ?_
            refine r_get C hR 3 i0 8 (v := .ref (a 41 i0)) (lv0 hi0 (by decide)) (by decide) (by decide) rfl fl_X3_37 dX3_settle_115 ?_
            refine lv_iload_n hx hb dX3_settle_118 rfl (lv_at hl 0 rfl) ?_
            refine lv_iconst (v := 1) hx hb dX3_settle_119 (by decide) ?_
            refine lv_iadd hx hb dX3_settle_120 ?_
            obtain ⟨k128, hk128, h⟩ := ob h
            refine r_ald C hR 41 i0 (lv0 hi0 (by decide)) (by decide) rfl (fun _ => rfl) rfl hk128 dX3_settle_121 ?_
            refine lv_iadd hx hb dX3_settle_122 ?_
            refine lv_aload_n hx hb dX3_settle_123 rfl (lv_at hl 1 rfl) ?_
            refine r_get C hR 3 i0 8 (v := .ref (a 41 i0)) (lv0 hi0 (by decide)) (by decide) (by decide) rfl fl_X3_37 dX3_settle_124 ?_
            refine lv_iload_n hx hb dX3_settle_127 rfl (lv_at hl 0 rfl) ?_
            refine lv_iconst (v := 2) hx hb dX3_settle_128 (by decide) ?_
            refine lv_iadd hx hb dX3_settle_129 ?_
            obtain ⟨k129, hk129, h⟩ := ob h
            refine r_ald C hR 41 i0 (lv0 hi0 (by decide)) (by decide) rfl (fun _ => rfl) rfl hk129 dX3_settle_130 ?_
            obtain ⟨k130, hk130, h⟩ := ob h
            refine r_ast C hR hS 43 i0 (lv0 hi0 (by decide)) (by decide) rfl (fun _ _ => rfl) rfl hk130 dX3_settle_131 (fun H locs hR hS => ?_)
            obtain ⟨u131, eu131⟩ : ∃ z : HS, z = wI u114 43 i0 k130 (gI u114 41 i0 k129) := ⟨_, rfl⟩
            rw [← eu131] at hR
            replace h := bd_x eu131 h
            clear eu131
            obtain ⟨x132, ex132⟩ : ∃ z : Int32, z = x113 + 1 := ⟨_, rfl⟩
            replace h := bd_x ex132 h
            refine lv_iinc (v := x132) (lv' := [(1, .int x132), (2, .int x126), (0, .ref (a 3 i0))]) hx hb dX3_settle_132 hl (k := 2) rfl (by rw [ex132]; rfl) (by decide) rfl (fun ls hl => ?_)
            refine lv_goto (tgt := 88) hx hb dX3_settle_135 (by decide) ?_
            exact ih _ _ _ _ _ h hR hS (lv_sub hl [2, 0] rfl)
      exact LP FU _ _ _ _ _ h hR hS (lv_sub hl [1, 0] rfl)
    have LP : ∀ (fu : Nat) (x109 : Int32) (u110 : HS) (H : Heap) (locs : List Loc) (ls : Array Slot), mX3_settle_L64 i0 w112 fu x109 u110 = some out → Rel E a u110 H → va_S (AE E) s.heap H locs → lv_has ls 3 [(0, .ref (a 3 i0)), (1, .int x109)] → W p l e { frames := 2, cells := 2, slots := 4800, locals := 48 } s m args below meth c H locs 2 4800 (MQ below (QWe E a0 none out) args s 2 4800 (AE E)) (F0 m 64 ls []) := by
      intro fu
      induction fu with
      | zero =>
        intro x109 u110 H locs ls h
        have h2 : (none : Option HS) = some out := h
        cases h2
      | succ fu ih =>
        intro x109 u110 H locs ls h hR hS hl
        rw [mX3_settle_L64.eq_2] at h
        refine lv_iload_n hx hb dX3_settle_64 rfl (lv_at hl 1 rfl) ?_
        refine lv_aload_n hx hb dX3_settle_65 rfl (lv_at hl 0 rfl) ?_
        refine r_get C hR 3 i0 3 (v := .int (gI u110 3 i0 3)) (lv0 hi0 (by decide)) (by decide) (by decide) rfl fl_X3_22 dX3_settle_66 ?_
        refine lv_icmp_ge (tgt := 86) hx hb dX3_settle_69 (by decide) (fun c_133 => ?_) (fun c_133 => ?_)
        · rw [if_pos c_133] at h
          exact Kw112 _ _ _ _ h hR hS (lv_sub hl [0] rfl)
        · rw [if_neg c_133] at h
          refine lv_aload_n hx hb dX3_settle_72 rfl (lv_at hl 0 rfl) ?_
          refine lv_iload_n hx hb dX3_settle_73 rfl (lv_at hl 1 rfl) ?_
          refine lv_bipush (v := 7) hx hb dX3_settle_74 (by decide) ?_
          refine lv_imul hx hb dX3_settle_76 ?_
          obtain ⟨u135, hc134, h⟩ := ob h
          refine r_callV0 (As := [.int (x109 * 7)]) (rest := []) (r := 3) (i := i0) C (vX3_settleWay hi0 hc134) hR hS (lv0 hi0 (by decide)) (by decide) ml_X3_102 mw_X3_settleWay rfl ⟨Nat.le_of_ble_eq_true rfl, Nat.le_of_ble_eq_true rfl, Nat.le_of_ble_eq_true rfl, Nat.le_of_ble_eq_true rfl⟩ hl.1 rfl (Nat.le_of_ble_eq_true rfl) dX3_settle_77 (fun H locs hR hS => ?_)
          obtain ⟨x136, ex136⟩ : ∃ z : Int32, z = x109 + 1 := ⟨_, rfl⟩
          replace h := bd_x ex136 h
          refine lv_iinc (v := x136) (lv' := [(1, .int x136), (0, .ref (a 3 i0))]) hx hb dX3_settle_80 hl (k := 1) rfl (by rw [ex136]; rfl) (by decide) rfl (fun ls hl => ?_)
          refine lv_goto (tgt := 64) hx hb dX3_settle_83 (by decide) ?_
          exact ih _ _ _ _ _ h hR hS (lv_sub hl [1, 0] rfl)
    exact LP FU _ _ _ _ _ h hR hS (lv_sub hl [1, 0] rfl)
  have LP : ∀ (fu : Nat) (x105 : Int32) (u106 : HS) (H : Heap) (locs : List Loc) (ls : Array Slot), mX3_settle_L30 i0 w108 fu x105 u106 = some out → Rel E a u106 H → va_S (AE E) s.heap H locs → lv_has ls 3 [(0, .ref (a 3 i0)), (1, .int x105)] → W p l e { frames := 2, cells := 2, slots := 4800, locals := 48 } s m args below meth c H locs 2 4800 (MQ below (QWe E a0 none out) args s 2 4800 (AE E)) (F0 m 30 ls []) := by
    intro fu
    induction fu with
    | zero =>
      intro x105 u106 H locs ls h
      have h2 : (none : Option HS) = some out := h
      cases h2
    | succ fu ih =>
      intro x105 u106 H locs ls h hR hS hl
      rw [mX3_settle_L30.eq_2] at h
      refine lv_iload_n hx hb dX3_settle_30 rfl (lv_at hl 1 rfl) ?_
      refine lv_aload_n hx hb dX3_settle_31 rfl (lv_at hl 0 rfl) ?_
      refine r_get C hR 3 i0 0 (v := .int (gI u106 3 i0 0)) (lv0 hi0 (by decide)) (by decide) (by decide) rfl fl_X3_9 dX3_settle_32 ?_
      refine lv_sipush (v := 300) hx hb dX3_settle_35 (by decide) ?_
      refine lv_imul hx hb dX3_settle_38 ?_
      refine lv_icmp_ge (tgt := 62) hx hb dX3_settle_39 (by decide) (fun c_137 => ?_) (fun c_137 => ?_)
      · rw [if_pos c_137] at h
        exact Kw108 _ _ _ _ h hR hS (lv_sub hl [0] rfl)
      · rw [if_neg c_137] at h
        refine lv_aload_n hx hb dX3_settle_42 rfl (lv_at hl 0 rfl) ?_
        refine r_get C hR 3 i0 12 (v := .ref (a 42 i0)) (lv0 hi0 (by decide)) (by decide) (by decide) rfl fl_X3_49 dX3_settle_43 ?_
        refine lv_iload_n hx hb dX3_settle_46 rfl (lv_at hl 1 rfl) ?_
        refine lv_iconst (v := (-1)) hx hb dX3_settle_47 (by decide) ?_
        obtain ⟨k138, hk138, h⟩ := ob h
        refine r_ast C hR hS 42 i0 (lv0 hi0 (by decide)) (by decide) rfl (fun _ _ => rfl) rfl hk138 dX3_settle_48 (fun H locs hR hS => ?_)
        obtain ⟨u139, eu139⟩ : ∃ z : HS, z = wI u106 42 i0 k138 (-1) := ⟨_, rfl⟩
        rw [← eu139] at hR
        replace h := bd_x eu139 h
        clear eu139
        refine lv_aload_n hx hb dX3_settle_49 rfl (lv_at hl 0 rfl) ?_
        refine r_get C hR 3 i0 13 (v := .ref (a 43 i0)) (lv0 hi0 (by decide)) (by decide) (by decide) rfl fl_X3_52 dX3_settle_50 ?_
        refine lv_iload_n hx hb dX3_settle_53 rfl (lv_at hl 1 rfl) ?_
        refine lv_iconst (v := (-1)) hx hb dX3_settle_54 (by decide) ?_
        obtain ⟨k140, hk140, h⟩ := ob h
        refine r_ast C hR hS 43 i0 (lv0 hi0 (by decide)) (by decide) rfl (fun _ _ => rfl) rfl hk140 dX3_settle_55 (fun H locs hR hS => ?_)
        obtain ⟨u141, eu141⟩ : ∃ z : HS, z = wI u139 43 i0 k140 (-1) := ⟨_, rfl⟩
        rw [← eu141] at hR
        replace h := bd_x eu141 h
        clear eu141
        obtain ⟨x142, ex142⟩ : ∃ z : Int32, z = x105 + 1 := ⟨_, rfl⟩
        replace h := bd_x ex142 h
        refine lv_iinc (v := x142) (lv' := [(1, .int x142), (0, .ref (a 3 i0))]) hx hb dX3_settle_56 hl (k := 1) rfl (by rw [ex142]; rfl) (by decide) rfl (fun ls hl => ?_)
        refine lv_goto (tgt := 30) hx hb dX3_settle_59 (by decide) ?_
        exact ih _ _ _ _ _ h hR hS (lv_sub hl [1, 0] rfl)
  exact LP FU _ _ _ _ _ h hR hS (lv_sub hl [1, 0] rfl)
set_option maxHeartbeats 4000000 in
set_option maxRecDepth 100000 in
theorem vX8_scene {l : Launch} (hfl : l.stackTraces = false) {E : EV} {a0 : Nat → Nat → Nat} {u0 : HS} {x1 : Int32} {out : (Nat × Int32 × HS)} (h : mX8_scene u0 x1 = some out) : CtXE l E yX8_scene cX8_scene 3 (some .int) 8 186 3 4806 a0 u0 [.ref (a0 8 0), .int x1] out.1 (some (.int out.2.1)) out.2.2 := by
  refine CtXE.start (by decide) (Nat.le_of_ble_eq_true rfl) ?_
  intro p e s m args below meth c ls hT0 C hr hR hS hl
  have C : Cx E p s m args meth c cX8_scene 3 RX8 := C
  obtain ⟨a, hAG, hR, hl⟩ : ∃ a : Nat → Nat → Nat, AG a0 a ∧ Rel E a u0 s.heap ∧ lv_has ls 3 [(0, .ref (a 8 0)), (1, .int x1)] := ⟨a0, AG.rf, hR, hl⟩
  have hx := C.1
  have hb := C.2.1
  unfold mX8_scene at h
  refine lv_iload_n hx hb dX8_scene_0 rfl (lv_at hl 1 rfl) ?_
  obtain ⟨x101, hz, h⟩ := ob h
  have Kj102 : ∀ (H : Heap) (locs : List Loc) (ls : Array Slot), Rel E a u0 H → va_S (AE E) s.heap H locs → lv_has ls 3 [(0, .ref (a 8 0)), (1, .int x1)] → W p l e { frames := 8, cells := 3, slots := 4806, locals := 186 } s m args below meth c H locs 0 0 (vx_MQ below (QXe E a0 out.1 (some (.int out.2.1)) out.2.2) (XWe E a0 out.1 out.2.2) args s 3 4806 (AE E)) (F0 m 20 ls [.int x101]) := by
    intro H locs ls hR hS hl
    clear hz
    obtain ⟨t103, hc103, h⟩ := ob h
    refine r_callXS (Qc := QXe E a0 out.1 (some (.int out.2.1)) out.2.2) (mc0 := 3) (ms0 := 4806) (As := [.int x101]) (rest := []) C hT0 (vX8_require hfl hc103) hR hS ml_X8_105 ms_X8_require rfl ⟨Nat.le_of_ble_eq_true rfl, Nat.le_of_ble_eq_true rfl, Nat.le_of_ble_eq_true rfl, Nat.le_of_ble_eq_true rfl⟩ ⟨Nat.le_of_ble_eq_true rfl, Nat.le_of_ble_eq_true rfl⟩ hl.1 rfl (Nat.le_of_ble_eq_true rfl) dX8_scene_20 (fun hk => ?_) (fun hk H locs hR hS => ?_)
    · rw [xq_ne hk] at h
      cases h
      exact fun _ q => xmono hAG q
    rw [xq_0 hk] at h
    refine lv_aload_n hx hb dX8_scene_23 rfl (lv_at hl 0 rfl) ?_
    refine r_get C hR 8 0 0 (v := .ref (a 5 0)) (lv0 (by decide) (by decide)) (by decide) (by decide) rfl fl_X8_10 dX8_scene_24 ?_
    refine lv_iload_n hx hb dX8_scene_27 rfl (lv_at hl 1 rfl) ?_
    obtain ⟨u105, hc104, h⟩ := ob h
    refine r_callV0 (As := [.int x1]) (rest := []) (r := 5) (i := 0) C (vX5_open hc104) hR hS (lv0 (by decide) (by decide)) (by decide) ml_X8_109 mw_X5_open rfl ⟨Nat.le_of_ble_eq_true rfl, Nat.le_of_ble_eq_true rfl, Nat.le_of_ble_eq_true rfl, Nat.le_of_ble_eq_true rfl⟩ hl.1 rfl (Nat.le_of_ble_eq_true rfl) dX8_scene_28 (fun H locs hR hS => ?_)
    refine lv_aload_n hx hb dX8_scene_31 rfl (lv_at hl 0 rfl) ?_
    refine r_get C hR 8 0 2 (v := .int (gI u105 8 0 2)) (lv0 (by decide) (by decide)) (by decide) (by decide) rfl fl_X8_22 dX8_scene_32 ?_
    refine lv_bipush (v := 6) hx hb dX8_scene_35 (by decide) ?_
    refine lv_icmp_ne (tgt := 42) hx hb dX8_scene_37 (by decide) (fun c_106 => ?_) (fun c_106 => ?_)
    · rw [if_neg c_106] at h
      refine lv_aload_n hx hb dX8_scene_42 rfl (lv_at hl 0 rfl) ?_
      refine r_get C hR 8 0 1 (v := .ref (a 50 0)) (lv0 (by decide) (by decide)) (by decide) (by decide) rfl fl_X8_18 dX8_scene_43 ?_
      refine lv_aload_n hx hb dX8_scene_46 rfl (lv_at hl 0 rfl) ?_
      refine r_get C hR 8 0 2 (v := .int (gI u105 8 0 2)) (lv0 (by decide) (by decide)) (by decide) (by decide) rfl fl_X8_22 dX8_scene_47 ?_
      obtain ⟨k107, hk107, h⟩ := ob h
      have hLk107 : k107 < cntS 3 := by have q1 := (ck_in hk107).2.2; have q2 : cntS 3 = 7 := rfl; omega
      refine r_aald C hR 50 0 3 0 2 (lv0 (by decide) (by decide)) (by decide) rfl rfl rfl (fun _ => rfl) rfl hk107 dX8_scene_50 ?_
      refine lv_astore_n (lv' := [(2, .ref (a 3 k107)), (0, .ref (a 8 0)), (1, .int x1)]) hx hb dX8_scene_51 rfl hl (by decide) rfl (fun ls hl => ?_)
      refine lv_aload_n hx hb dX8_scene_52 rfl (lv_at hl 0 rfl) ?_
      refine lv_aload_n hx hb dX8_scene_53 rfl (lv_at hl 1 rfl) ?_
      refine r_get C hR 8 0 0 (v := .ref (a 5 0)) (lv0 (by decide) (by decide)) (by decide) (by decide) rfl fl_X8_10 dX8_scene_54 ?_
      obtain ⟨u109, hc108, h⟩ := ob h
      refine r_callV0 (As := [.ref (a 5 0)]) (rest := []) (r := 3) (i := k107) C (vX3_read hLk107 hc108) hR hS (lv0 hLk107 (by decide)) (by decide) ml_X8_112 mw_X3_read rfl ⟨Nat.le_of_ble_eq_true rfl, Nat.le_of_ble_eq_true rfl, Nat.le_of_ble_eq_true rfl, Nat.le_of_ble_eq_true rfl⟩ hl.1 rfl (Nat.le_of_ble_eq_true rfl) dX8_scene_57 (fun H locs hR hS => ?_)
      refine lv_aload_n hx hb dX8_scene_60 rfl (lv_at hl 1 rfl) ?_
      refine r_get C hR 8 0 0 (v := .ref (a 5 0)) (lv0 (by decide) (by decide)) (by decide) (by decide) rfl fl_X8_10 dX8_scene_61 ?_
      refine r_get C hR 5 0 5 (v := .int (gI u109 5 0 5)) (lv0 (by decide) (by decide)) (by decide) (by decide) rfl fl_X8_115 dX8_scene_64 ?_
      refine lv_if_eq (tgt := 81) hx hb dX8_scene_67 (by decide) (fun c_110 => ?_) (fun c_110 => ?_)
      · rw [if_pos c_110] at h
        refine lv_aload_n hx hb dX8_scene_81 rfl (lv_at hl 0 rfl) ?_
        obtain ⟨u112, hc111, h⟩ := ob h
        refine r_callVE (As := []) (rest := []) (r := 3) (i := k107) C hAG (vX3_settle hLk107 hc111) hR hS (lv0 hLk107 (by decide)) (by decide) ml_X8_118 mw_X3_settle rfl ⟨Nat.le_of_ble_eq_true rfl, Nat.le_of_ble_eq_true rfl, Nat.le_of_ble_eq_true rfl, Nat.le_of_ble_eq_true rfl⟩ hl.1 rfl (Nat.le_of_ble_eq_true rfl) dX8_scene_82 (fun a H locs hAG hag hR hS => ?_)
        have hl : lv_has ls 3 [(2, .ref (a 3 k107)), (0, .ref (a 8 0)), (1, .int x1)] := by rw [hag 3 k107 (by decide) (by decide)]; rw [hag 8 0 (by decide) (by decide)]; exact hl
        refine lv_aload_n hx hb dX8_scene_85 rfl (lv_at hl 1 rfl) ?_
        refine lv_dup hx hb dX8_scene_86 rfl ?_
        refine r_get C hR 8 0 2 (v := .int (gI u112 8 0 2)) (lv0 (by decide) (by decide)) (by decide) (by decide) rfl fl_X8_22 dX8_scene_87 ?_
        refine lv_dup_x1 hx hb dX8_scene_90 rfl rfl ?_
        refine lv_iconst (v := 1) hx hb dX8_scene_91 (by decide) ?_
        refine lv_iadd hx hb dX8_scene_92 ?_
        refine r_putI (ty := .int) C hR hS 8 0 2 (lv0 (by decide) (by decide)) (by decide) (by decide) (fun _ => rfl) fl_X8_22 (by decide) (by decide +kernel) rfl rfl dX8_scene_93 (fun H locs hR hS => ?_)
        obtain ⟨u113, eu113⟩ : ∃ z : HS, z = wI u112 8 0 2 ((gI u112 8 0 2) + 1) := ⟨_, rfl⟩
        rw [← eu113] at hR
        replace h := bd_x eu113 h
        clear eu113
        cases h
        exact x_retE (e_iretE hAG C hr hR hS (Nat.le_of_ble_eq_true rfl) (Nat.le_of_ble_eq_true rfl) dX8_scene_96)
      · rw [if_neg c_110] at h
        refine lv_aload_n hx hb dX8_scene_70 rfl (lv_at hl 1 rfl) ?_
        refine r_get C hR 8 0 0 (v := .ref (a 5 0)) (lv0 (by decide) (by decide)) (by decide) (by decide) rfl fl_X8_10 dX8_scene_71 ?_
        refine r_get C hR 5 0 5 (v := .int (gI u109 5 0 5)) (lv0 (by decide) (by decide)) (by decide) (by decide) rfl fl_X8_115 dX8_scene_74 ?_
        refine lv_bipush (v := 10) hx hb dX8_scene_77 (by decide) ?_
        refine lv_isub hx hb dX8_scene_79 ?_
        cases h
        exact x_retE (e_iretE hAG C hr hR hS (Nat.le_of_ble_eq_true rfl) (Nat.le_of_ble_eq_true rfl) dX8_scene_80)
    · rw [if_pos c_106] at h
      refine lv_iconst (v := (-1)) hx hb dX8_scene_40 (by decide) ?_
      cases h
      exact x_retE (e_iretE hAG C hr hR hS (Nat.le_of_ble_eq_true rfl) (Nat.le_of_ble_eq_true rfl) dX8_scene_41)
  clear h
  have h := hz
  clear hz
  refine jp_cut h (fun j114 hj114 h => ?_)
  have Kj114 : ∀  (H : Heap) (locs : List Loc) (ls : Array Slot), j114 = some x101 → Rel E a u0 H → va_S (AE E) s.heap H locs → lv_has ls 3 [(0, .ref (a 8 0)), (1, .int x1)] → W p l e { frames := 8, cells := 3, slots := 4806, locals := 186 } s m args below meth c H locs 0 0 (vx_MQ below (QXe E a0 out.1 (some (.int out.2.1)) out.2.2) (XWe E a0 out.1 out.2.2) args s 3 4806 (AE E)) (F0 m 19 ls []) := by
    intro  H locs ls h hR hS hl
    replace h := jx0 hj114 h
    refine lv_iconst (v := 0) hx hb dX8_scene_19 (by decide) ?_
    cases h
    exact Kj102 _ _ _ hR hS (lv_sub hl [0, 1] rfl)
  refine lv_if_lt (tgt := 19) hx hb dX8_scene_1 (by decide) (fun c_115 => ?_) (fun c_115 => ?_)
  · rw [if_pos c_115] at h
    exact Kj114  _ _ _ h hR hS (lv_sub hl [0, 1] rfl)
  · rw [if_neg c_115] at h
    refine lv_iload_n hx hb dX8_scene_4 rfl (lv_at hl 1 rfl) ?_
    refine lv_aload_n hx hb dX8_scene_5 rfl (lv_at hl 0 rfl) ?_
    refine r_get C hR 8 0 0 (v := .ref (a 5 0)) (lv0 (by decide) (by decide)) (by decide) (by decide) rfl fl_X8_10 dX8_scene_6 ?_
    refine r_get C hR 5 0 1 (v := .int (gI u0 5 0 1)) (lv0 (by decide) (by decide)) (by decide) (by decide) rfl fl_X8_102 dX8_scene_9 ?_
    refine lv_icmp_gt (tgt := 19) hx hb dX8_scene_12 (by decide) (fun c_116 => ?_) (fun c_116 => ?_)
    · rw [if_pos c_116] at h
      exact Kj114  _ _ _ h hR hS (lv_sub hl [0, 1] rfl)
    · rw [if_neg c_116] at h
      refine lv_iconst (v := 1) hx hb dX8_scene_15 (by decide) ?_
      refine lv_goto (tgt := 20) hx hb dX8_scene_16 (by decide) ?_
      cases h
      exact Kj102 _ _ _ hR hS (lv_sub hl [0, 1] rfl)
set_option maxHeartbeats 4000000 in
set_option maxRecDepth 100000 in
theorem vX8_task {l : Launch} (hfl : l.stackTraces = false) {E : EV} {a : Nat → Nat → Nat} {u0 : HS} {x1 : Int32} {out : (Nat × Int32 × HS)} (h : mX8_task u0 x1 = some out) : CtX l E yX8_task cX8_task 2 (some .int) 8 186 1 6 a u0 [.ref (a 8 0), .int x1] out.1 (some (.int out.2.1)) out.2.2 := by
  refine CtX.start (by decide) (Nat.le_of_ble_eq_true rfl) ?_
  intro p e s m args below meth c ls hT0 C hr hR hS hl
  have C : Cx E p s m args meth c cX8_task 2 RX8 := C
  have hl : lv_has ls 2 [(0, .ref (a 8 0)), (1, .int x1)] := hl
  have hx := C.1
  have hb := C.2.1
  unfold mX8_task at h
  refine lv_iload_n hx hb dX8_task_0 rfl (lv_at hl 1 rfl) ?_
  obtain ⟨x101, hz, h⟩ := ob h
  have Kj102 : ∀ (H : Heap) (locs : List Loc) (ls : Array Slot), Rel E a u0 H → va_S (AE E) s.heap H locs → lv_has ls 2 [(0, .ref (a 8 0)), (1, .int x1)] → W p l e { frames := 8, cells := 1, slots := 6, locals := 186 } s m args below meth c H locs 0 0 (vx_MQ below (QX E a out.1 (some (.int out.2.1)) out.2.2) (XW E a out.1 out.2.2) args s 1 6 (AE E)) (F0 m 27 ls [.int x101]) := by
    intro H locs ls hR hS hl
    clear hz
    obtain ⟨t103, hc103, h⟩ := ob h
    refine r_callXS (Qc := QX E a out.1 (some (.int out.2.1)) out.2.2) (mc0 := 1) (ms0 := 6) (As := [.int x101]) (rest := []) C hT0 (vX8_require hfl hc103) hR hS ml_X8_105 ms_X8_require rfl ⟨Nat.le_of_ble_eq_true rfl, Nat.le_of_ble_eq_true rfl, Nat.le_of_ble_eq_true rfl, Nat.le_of_ble_eq_true rfl⟩ ⟨Nat.le_of_ble_eq_true rfl, Nat.le_of_ble_eq_true rfl⟩ hl.1 rfl (Nat.le_of_ble_eq_true rfl) dX8_task_27 (fun hk => ?_) (fun hk H locs hR hS => ?_)
    · rw [xq_ne hk] at h
      cases h
      exact fun _ q => q
    rw [xq_0 hk] at h
    refine lv_aload_n hx hb dX8_task_30 rfl (lv_at hl 0 rfl) ?_
    refine r_get C hR 8 0 0 (v := .ref (a 5 0)) (lv0 (by decide) (by decide)) (by decide) (by decide) rfl fl_X8_10 dX8_task_31 ?_
    refine lv_iload_n hx hb dX8_task_34 rfl (lv_at hl 1 rfl) ?_
    obtain ⟨u105, hc104, h⟩ := ob h
    refine r_callV0 (As := [.int x1]) (rest := []) (r := 5) (i := 0) C (vX5_open hc104) hR hS (lv0 (by decide) (by decide)) (by decide) ml_X8_109 mw_X5_open rfl ⟨Nat.le_of_ble_eq_true rfl, Nat.le_of_ble_eq_true rfl, Nat.le_of_ble_eq_true rfl, Nat.le_of_ble_eq_true rfl⟩ hl.1 rfl (Nat.le_of_ble_eq_true rfl) dX8_task_35 (fun H locs hR hS => ?_)
    refine lv_aload_n hx hb dX8_task_38 rfl (lv_at hl 0 rfl) ?_
    refine r_get C hR 8 0 4 (v := .int (gI u105 8 0 4)) (lv0 (by decide) (by decide)) (by decide) (by decide) rfl fl_X8_32 dX8_task_39 ?_
    refine lv_bipush (v := 6) hx hb dX8_task_42 (by decide) ?_
    refine lv_icmp_ne (tgt := 49) hx hb dX8_task_44 (by decide) (fun c_106 => ?_) (fun c_106 => ?_)
    · rw [if_neg c_106] at h
      refine lv_aload_n hx hb dX8_task_49 rfl (lv_at hl 0 rfl) ?_
      refine r_get C hR 8 0 3 (v := .ref (a 51 0)) (lv0 (by decide) (by decide)) (by decide) (by decide) rfl fl_X8_28 dX8_task_50 ?_
      refine lv_aload_n hx hb dX8_task_53 rfl (lv_at hl 0 rfl) ?_
      refine r_get C hR 8 0 4 (v := .int (gI u105 8 0 4)) (lv0 (by decide) (by decide)) (by decide) (by decide) rfl fl_X8_32 dX8_task_54 ?_
      obtain ⟨k107, hk107, h⟩ := ob h
      have hLk107 : k107 < cntS 6 := by have q1 := (ck_in hk107).2.2; have q2 : cntS 6 = 7 := rfl; omega
      refine r_aald C hR 51 0 6 0 3 (lv0 (by decide) (by decide)) (by decide) rfl rfl rfl (fun _ => rfl) rfl hk107 dX8_task_57 ?_
      refine lv_aload_n hx hb dX8_task_58 rfl (lv_at hl 0 rfl) ?_
      refine r_get C hR 8 0 0 (v := .ref (a 5 0)) (lv0 (by decide) (by decide)) (by decide) (by decide) rfl fl_X8_10 dX8_task_59 ?_
      obtain ⟨u109, hc108, h⟩ := ob h
      refine r_callV0 (As := [.ref (a 5 0)]) (rest := []) (r := 6) (i := k107) C (vX6_read hLk107 hc108) hR hS (lv0 hLk107 (by decide)) (by decide) ml_X8_121 mw_X6_read rfl ⟨Nat.le_of_ble_eq_true rfl, Nat.le_of_ble_eq_true rfl, Nat.le_of_ble_eq_true rfl, Nat.le_of_ble_eq_true rfl⟩ hl.1 rfl (Nat.le_of_ble_eq_true rfl) dX8_task_62 (fun H locs hR hS => ?_)
      refine lv_aload_n hx hb dX8_task_65 rfl (lv_at hl 0 rfl) ?_
      refine r_get C hR 8 0 0 (v := .ref (a 5 0)) (lv0 (by decide) (by decide)) (by decide) (by decide) rfl fl_X8_10 dX8_task_66 ?_
      refine r_get C hR 5 0 5 (v := .int (gI u109 5 0 5)) (lv0 (by decide) (by decide)) (by decide) (by decide) rfl fl_X8_115 dX8_task_69 ?_
      refine lv_if_eq (tgt := 88) hx hb dX8_task_72 (by decide) (fun c_110 => ?_) (fun c_110 => ?_)
      · rw [if_pos c_110] at h
        refine lv_aload_n hx hb dX8_task_88 rfl (lv_at hl 0 rfl) ?_
        refine lv_dup hx hb dX8_task_89 rfl ?_
        refine r_get C hR 8 0 4 (v := .int (gI u109 8 0 4)) (lv0 (by decide) (by decide)) (by decide) (by decide) rfl fl_X8_32 dX8_task_90 ?_
        refine lv_dup_x1 hx hb dX8_task_93 rfl rfl ?_
        refine lv_iconst (v := 1) hx hb dX8_task_94 (by decide) ?_
        refine lv_iadd hx hb dX8_task_95 ?_
        refine r_putI (ty := .int) C hR hS 8 0 4 (lv0 (by decide) (by decide)) (by decide) (by decide) (fun _ => rfl) fl_X8_32 (by decide) (by decide +kernel) rfl rfl dX8_task_96 (fun H locs hR hS => ?_)
        obtain ⟨u111, eu111⟩ : ∃ z : HS, z = wI u109 8 0 4 ((gI u109 8 0 4) + 1) := ⟨_, rfl⟩
        rw [← eu111] at hR
        replace h := bd_x eu111 h
        clear eu111
        cases h
        exact x_ret (e_iret C hr hR hS (Nat.le_of_ble_eq_true rfl) (Nat.le_of_ble_eq_true rfl) dX8_task_99)
      · rw [if_neg c_110] at h
        refine lv_aload_n hx hb dX8_task_75 rfl (lv_at hl 0 rfl) ?_
        refine r_get C hR 8 0 0 (v := .ref (a 5 0)) (lv0 (by decide) (by decide)) (by decide) (by decide) rfl fl_X8_10 dX8_task_76 ?_
        refine r_get C hR 5 0 5 (v := .int (gI u109 5 0 5)) (lv0 (by decide) (by decide)) (by decide) (by decide) rfl fl_X8_115 dX8_task_79 ?_
        refine lv_bipush (v := 10) hx hb dX8_task_82 (by decide) ?_
        refine lv_isub hx hb dX8_task_84 ?_
        refine lv_goto (tgt := 99) hx hb dX8_task_85 (by decide) ?_
        cases h
        exact x_ret (e_iret C hr hR hS (Nat.le_of_ble_eq_true rfl) (Nat.le_of_ble_eq_true rfl) dX8_task_99)
    · rw [if_pos c_106] at h
      refine lv_iconst (v := (-1)) hx hb dX8_task_47 (by decide) ?_
      cases h
      exact x_ret (e_iret C hr hR hS (Nat.le_of_ble_eq_true rfl) (Nat.le_of_ble_eq_true rfl) dX8_task_48)
  clear h
  have h := hz
  clear hz
  refine jp_cut h (fun j112 hj112 h => ?_)
  have Kj112 : ∀  (H : Heap) (locs : List Loc) (ls : Array Slot), j112 = some x101 → Rel E a u0 H → va_S (AE E) s.heap H locs → lv_has ls 2 [(0, .ref (a 8 0)), (1, .int x1)] → W p l e { frames := 8, cells := 1, slots := 6, locals := 186 } s m args below meth c H locs 0 0 (vx_MQ below (QX E a out.1 (some (.int out.2.1)) out.2.2) (XW E a out.1 out.2.2) args s 1 6 (AE E)) (F0 m 26 ls []) := by
    intro  H locs ls h hR hS hl
    replace h := jx0 hj112 h
    refine lv_iconst (v := 0) hx hb dX8_task_26 (by decide) ?_
    cases h
    exact Kj102 _ _ _ hR hS (lv_sub hl [0, 1] rfl)
  refine lv_if_lt (tgt := 26) hx hb dX8_task_1 (by decide) (fun c_113 => ?_) (fun c_113 => ?_)
  · rw [if_pos c_113] at h
    exact Kj112  _ _ _ h hR hS (lv_sub hl [0, 1] rfl)
  · rw [if_neg c_113] at h
    refine lv_iload_n hx hb dX8_task_4 rfl (lv_at hl 1 rfl) ?_
    refine lv_aload_n hx hb dX8_task_5 rfl (lv_at hl 0 rfl) ?_
    refine r_get C hR 8 0 0 (v := .ref (a 5 0)) (lv0 (by decide) (by decide)) (by decide) (by decide) rfl fl_X8_10 dX8_task_6 ?_
    refine r_get C hR 5 0 1 (v := .int (gI u0 5 0 1)) (lv0 (by decide) (by decide)) (by decide) (by decide) rfl fl_X8_102 dX8_task_9 ?_
    refine lv_icmp_gt (tgt := 26) hx hb dX8_task_12 (by decide) (fun c_114 => ?_) (fun c_114 => ?_)
    · rw [if_pos c_114] at h
      exact Kj112  _ _ _ h hR hS (lv_sub hl [0, 1] rfl)
    · rw [if_neg c_114] at h
      refine lv_iload_n hx hb dX8_task_15 rfl (lv_at hl 1 rfl) ?_
      refine lv_sipush (v := 200) hx hb dX8_task_16 (by decide) ?_
      refine lv_icmp_gt (tgt := 26) hx hb dX8_task_19 (by decide) (fun c_115 => ?_) (fun c_115 => ?_)
      · rw [if_pos c_115] at h
        exact Kj112  _ _ _ h hR hS (lv_sub hl [0, 1] rfl)
      · rw [if_neg c_115] at h
        refine lv_iconst (v := 1) hx hb dX8_task_22 (by decide) ?_
        refine lv_goto (tgt := 27) hx hb dX8_task_23 (by decide) ?_
        cases h
        exact Kj102 _ _ _ hR hS (lv_sub hl [0, 1] rfl)
set_option maxHeartbeats 4000000 in
set_option maxRecDepth 100000 in
theorem vX8_law {l : Launch} (hfl : l.stackTraces = false) {E : EV} {a : Nat → Nat → Nat} {u0 : HS} {x1 : Int32} {out : (Nat × Int32 × HS)} (h : mX8_law u0 x1 = some out) : CtX l E yX8_law cX8_law 2 (some .int) 72 2828 1 6 a u0 [.ref (a 8 0), .int x1] out.1 (some (.int out.2.1)) out.2.2 := by
  refine CtX.start (by decide) (Nat.le_of_ble_eq_true rfl) ?_
  intro p e s m args below meth c ls hT0 C hr hR hS hl
  have C : Cx E p s m args meth c cX8_law 2 RX8 := C
  have hl : lv_has ls 2 [(0, .ref (a 8 0)), (1, .int x1)] := hl
  have hx := C.1
  have hb := C.2.1
  unfold mX8_law at h
  refine lv_iload_n hx hb dX8_law_0 rfl (lv_at hl 1 rfl) ?_
  obtain ⟨x101, hz, h⟩ := ob h
  have Kj102 : ∀ (H : Heap) (locs : List Loc) (ls : Array Slot), Rel E a u0 H → va_S (AE E) s.heap H locs → lv_has ls 2 [(0, .ref (a 8 0)), (1, .int x1)] → W p l e { frames := 72, cells := 1, slots := 6, locals := 2828 } s m args below meth c H locs 0 0 (vx_MQ below (QX E a out.1 (some (.int out.2.1)) out.2.2) (XW E a out.1 out.2.2) args s 1 6 (AE E)) (F0 m 20 ls [.int x101]) := by
    intro H locs ls hR hS hl
    clear hz
    obtain ⟨t103, hc103, h⟩ := ob h
    refine r_callXS (Qc := QX E a out.1 (some (.int out.2.1)) out.2.2) (mc0 := 1) (ms0 := 6) (As := [.int x101]) (rest := []) C hT0 (vX8_require hfl hc103) hR hS ml_X8_105 ms_X8_require rfl ⟨Nat.le_of_ble_eq_true rfl, Nat.le_of_ble_eq_true rfl, Nat.le_of_ble_eq_true rfl, Nat.le_of_ble_eq_true rfl⟩ ⟨Nat.le_of_ble_eq_true rfl, Nat.le_of_ble_eq_true rfl⟩ hl.1 rfl (Nat.le_of_ble_eq_true rfl) dX8_law_20 (fun hk => ?_) (fun hk H locs hR hS => ?_)
    · rw [xq_ne hk] at h
      cases h
      exact fun _ q => q
    rw [xq_0 hk] at h
    refine lv_aload_n hx hb dX8_law_23 rfl (lv_at hl 0 rfl) ?_
    refine r_get C hR 8 0 0 (v := .ref (a 5 0)) (lv0 (by decide) (by decide)) (by decide) (by decide) rfl fl_X8_10 dX8_law_24 ?_
    refine lv_iload_n hx hb dX8_law_27 rfl (lv_at hl 1 rfl) ?_
    obtain ⟨u105, hc104, h⟩ := ob h
    refine r_callV0 (As := [.int x1]) (rest := []) (r := 5) (i := 0) C (vX5_open hc104) hR hS (lv0 (by decide) (by decide)) (by decide) ml_X8_109 mw_X5_open rfl ⟨Nat.le_of_ble_eq_true rfl, Nat.le_of_ble_eq_true rfl, Nat.le_of_ble_eq_true rfl, Nat.le_of_ble_eq_true rfl⟩ hl.1 rfl (Nat.le_of_ble_eq_true rfl) dX8_law_28 (fun H locs hR hS => ?_)
    refine lv_aload_n hx hb dX8_law_31 rfl (lv_at hl 0 rfl) ?_
    refine r_get C hR 8 0 6 (v := .int (gI u105 8 0 6)) (lv0 (by decide) (by decide)) (by decide) (by decide) rfl fl_X8_41 dX8_law_32 ?_
    refine lv_iconst (v := 4) hx hb dX8_law_35 (by decide) ?_
    refine lv_icmp_ne (tgt := 41) hx hb dX8_law_36 (by decide) (fun c_106 => ?_) (fun c_106 => ?_)
    · rw [if_neg c_106] at h
      refine lv_aload_n hx hb dX8_law_41 rfl (lv_at hl 0 rfl) ?_
      refine r_get C hR 8 0 7 (v := .ref (a 2 0)) (lv0 (by decide) (by decide)) (by decide) (by decide) rfl fl_X8_49 dX8_law_42 ?_
      refine lv_aload_n hx hb dX8_law_45 rfl (lv_at hl 0 rfl) ?_
      refine r_get C hR 8 0 5 (v := .ref (a 52 0)) (lv0 (by decide) (by decide)) (by decide) (by decide) rfl fl_X8_37 dX8_law_46 ?_
      refine lv_aload_n hx hb dX8_law_49 rfl (lv_at hl 0 rfl) ?_
      refine r_get C hR 8 0 6 (v := .int (gI u105 8 0 6)) (lv0 (by decide) (by decide)) (by decide) (by decide) rfl fl_X8_41 dX8_law_50 ?_
      obtain ⟨k107, hk107, h⟩ := ob h
      have hLk107 : k107 < cntS 1 := by have q1 := (ck_in hk107).2.2; have q2 : cntS 1 = 5 := rfl; omega
      refine r_aald C hR 52 0 1 0 4 (lv0 (by decide) (by decide)) (by decide) rfl rfl rfl (fun _ => rfl) rfl hk107 dX8_law_53 ?_
      obtain ⟨u109, hc108, h⟩ := ob h
      refine r_callV0 (As := [.ref (a 1 k107)]) (rest := []) (r := 2) (i := 0) C (vX2_read hLk107 hc108) hR hS (lv0 (by decide) (by decide)) (by decide) ml_X8_122 mw_X2_read rfl ⟨Nat.le_of_ble_eq_true rfl, Nat.le_of_ble_eq_true rfl, Nat.le_of_ble_eq_true rfl, Nat.le_of_ble_eq_true rfl⟩ hl.1 rfl (Nat.le_of_ble_eq_true rfl) dX8_law_54 (fun H locs hR hS => ?_)
      refine lv_aload_n hx hb dX8_law_57 rfl (lv_at hl 0 rfl) ?_
      refine r_get C hR 8 0 0 (v := .ref (a 5 0)) (lv0 (by decide) (by decide)) (by decide) (by decide) rfl fl_X8_10 dX8_law_58 ?_
      refine r_get C hR 5 0 5 (v := .int (gI u109 5 0 5)) (lv0 (by decide) (by decide)) (by decide) (by decide) rfl fl_X8_115 dX8_law_61 ?_
      refine lv_if_eq (tgt := 80) hx hb dX8_law_64 (by decide) (fun c_110 => ?_) (fun c_110 => ?_)
      · rw [if_pos c_110] at h
        refine lv_aload_n hx hb dX8_law_80 rfl (lv_at hl 0 rfl) ?_
        refine lv_dup hx hb dX8_law_81 rfl ?_
        refine r_get C hR 8 0 6 (v := .int (gI u109 8 0 6)) (lv0 (by decide) (by decide)) (by decide) (by decide) rfl fl_X8_41 dX8_law_82 ?_
        refine lv_dup_x1 hx hb dX8_law_85 rfl rfl ?_
        refine lv_iconst (v := 1) hx hb dX8_law_86 (by decide) ?_
        refine lv_iadd hx hb dX8_law_87 ?_
        refine r_putI (ty := .int) C hR hS 8 0 6 (lv0 (by decide) (by decide)) (by decide) (by decide) (fun _ => rfl) fl_X8_41 (by decide) (by decide +kernel) rfl rfl dX8_law_88 (fun H locs hR hS => ?_)
        obtain ⟨u111, eu111⟩ : ∃ z : HS, z = wI u109 8 0 6 ((gI u109 8 0 6) + 1) := ⟨_, rfl⟩
        rw [← eu111] at hR
        replace h := bd_x eu111 h
        clear eu111
        cases h
        exact x_ret (e_iret C hr hR hS (Nat.le_of_ble_eq_true rfl) (Nat.le_of_ble_eq_true rfl) dX8_law_91)
      · rw [if_neg c_110] at h
        refine lv_aload_n hx hb dX8_law_67 rfl (lv_at hl 0 rfl) ?_
        refine r_get C hR 8 0 0 (v := .ref (a 5 0)) (lv0 (by decide) (by decide)) (by decide) (by decide) rfl fl_X8_10 dX8_law_68 ?_
        refine r_get C hR 5 0 5 (v := .int (gI u109 5 0 5)) (lv0 (by decide) (by decide)) (by decide) (by decide) rfl fl_X8_115 dX8_law_71 ?_
        refine lv_bipush (v := 10) hx hb dX8_law_74 (by decide) ?_
        refine lv_isub hx hb dX8_law_76 ?_
        refine lv_goto (tgt := 91) hx hb dX8_law_77 (by decide) ?_
        cases h
        exact x_ret (e_iret C hr hR hS (Nat.le_of_ble_eq_true rfl) (Nat.le_of_ble_eq_true rfl) dX8_law_91)
    · rw [if_pos c_106] at h
      refine lv_iconst (v := (-1)) hx hb dX8_law_39 (by decide) ?_
      cases h
      exact x_ret (e_iret C hr hR hS (Nat.le_of_ble_eq_true rfl) (Nat.le_of_ble_eq_true rfl) dX8_law_40)
  clear h
  have h := hz
  clear hz
  refine jp_cut h (fun j112 hj112 h => ?_)
  have Kj112 : ∀  (H : Heap) (locs : List Loc) (ls : Array Slot), j112 = some x101 → Rel E a u0 H → va_S (AE E) s.heap H locs → lv_has ls 2 [(0, .ref (a 8 0)), (1, .int x1)] → W p l e { frames := 72, cells := 1, slots := 6, locals := 2828 } s m args below meth c H locs 0 0 (vx_MQ below (QX E a out.1 (some (.int out.2.1)) out.2.2) (XW E a out.1 out.2.2) args s 1 6 (AE E)) (F0 m 19 ls []) := by
    intro  H locs ls h hR hS hl
    replace h := jx0 hj112 h
    refine lv_iconst (v := 0) hx hb dX8_law_19 (by decide) ?_
    cases h
    exact Kj102 _ _ _ hR hS (lv_sub hl [0, 1] rfl)
  refine lv_if_lt (tgt := 19) hx hb dX8_law_1 (by decide) (fun c_113 => ?_) (fun c_113 => ?_)
  · rw [if_pos c_113] at h
    exact Kj112  _ _ _ h hR hS (lv_sub hl [0, 1] rfl)
  · rw [if_neg c_113] at h
    refine lv_iload_n hx hb dX8_law_4 rfl (lv_at hl 1 rfl) ?_
    refine lv_aload_n hx hb dX8_law_5 rfl (lv_at hl 0 rfl) ?_
    refine r_get C hR 8 0 0 (v := .ref (a 5 0)) (lv0 (by decide) (by decide)) (by decide) (by decide) rfl fl_X8_10 dX8_law_6 ?_
    refine r_get C hR 5 0 1 (v := .int (gI u0 5 0 1)) (lv0 (by decide) (by decide)) (by decide) (by decide) rfl fl_X8_102 dX8_law_9 ?_
    refine lv_icmp_gt (tgt := 19) hx hb dX8_law_12 (by decide) (fun c_114 => ?_) (fun c_114 => ?_)
    · rw [if_pos c_114] at h
      exact Kj112  _ _ _ h hR hS (lv_sub hl [0, 1] rfl)
    · rw [if_neg c_114] at h
      refine lv_iconst (v := 1) hx hb dX8_law_15 (by decide) ?_
      refine lv_goto (tgt := 20) hx hb dX8_law_16 (by decide) ?_
      cases h
      exact Kj102 _ _ _ hR hS (lv_sub hl [0, 1] rfl)
set_option maxHeartbeats 4000000 in
set_option maxRecDepth 100000 in
theorem vX8_requireScene {l : Launch} (hfl : l.stackTraces = false) {E : EV} {a : Nat → Nat → Nat} {u0 : HS} {x1 : Int32} {out : Nat} (h : mX8_requireScene u0 x1 = some out) : CtX l E yX8_requireScene cX8_requireScene 2 none 6 90 1 6 a u0 [.ref (a 8 0), .int x1] out none u0 := by
  refine CtX.start (by decide) (Nat.le_of_ble_eq_true rfl) ?_
  intro p e s m args below meth c ls hT0 C hr hR hS hl
  have C : Cx E p s m args meth c cX8_requireScene 2 RX8 := C
  have hl : lv_has ls 2 [(0, .ref (a 8 0)), (1, .int x1)] := hl
  have hx := C.1
  have hb := C.2.1
  unfold mX8_requireScene at h
  refine lv_iload_n hx hb dX8_requireScene_0 rfl (lv_at hl 1 rfl) ?_
  refine jp_cut h (fun j101 hj101 h => ?_)
  have Kj101 : ∀  (H : Heap) (locs : List Loc) (ls : Array Slot), j101 = some out → Rel E a u0 H → va_S (AE E) s.heap H locs → lv_has ls 2 [] → W p l e { frames := 6, cells := 1, slots := 6, locals := 90 } s m args below meth c H locs 0 0 (vx_MQ below (QX E a out none u0) (XW E a out u0) args s 1 6 (AE E)) (F0 m 12 ls []) := by
    intro  H locs ls h hR hS hl
    replace h := jx0 hj101 h
    cases h
    exact r_throw2 hfl C hT0 hR hS hl.1 dX8_requireScene_12 dX8_requireScene_15 dX8_requireScene_16 dX8_requireScene_19 (Nat.le_of_ble_eq_true rfl) (Nat.le_of_ble_eq_true rfl) (Nat.le_of_ble_eq_true rfl) (Nat.le_of_ble_eq_true rfl) (Nat.le_of_ble_eq_true rfl) (Nat.le_of_ble_eq_true rfl)
  refine lv_if_lt (tgt := 12) hx hb dX8_requireScene_1 (by decide) (fun c_102 => ?_) (fun c_102 => ?_)
  · rw [if_pos c_102] at h
    exact Kj101  _ _ _ h hR hS (lv_sub hl [] rfl)
  · rw [if_neg c_102] at h
    refine lv_iload_n hx hb dX8_requireScene_4 rfl (lv_at hl 1 rfl) ?_
    refine lv_aload_n hx hb dX8_requireScene_5 rfl (lv_at hl 0 rfl) ?_
    refine r_get C hR 8 0 2 (v := .int (gI u0 8 0 2)) (lv0 (by decide) (by decide)) (by decide) (by decide) rfl fl_X8_22 dX8_requireScene_6 ?_
    refine lv_icmp_lt (tgt := 20) hx hb dX8_requireScene_9 (by decide) (fun c_103 => ?_) (fun c_103 => ?_)
    · rw [if_pos c_103] at h
      cases h
      exact x_ret (e_vret C hr hR hS (Nat.le_of_ble_eq_true rfl) (Nat.le_of_ble_eq_true rfl) dX8_requireScene_20)
    · rw [if_neg c_103] at h
      exact Kj101  _ _ _ h hR hS (lv_sub hl [] rfl)
set_option maxHeartbeats 4000000 in
set_option maxRecDepth 100000 in
theorem vX8_told {l : Launch} (hfl : l.stackTraces = false) {E : EV} {a : Nat → Nat → Nat} {u0 : HS} {x1 : Int32} {x2 : Int32} {out : (Nat × Int32 × HS)} (h : mX8_told u0 x1 x2 = some out) : CtX l E yX8_told cX8_told 4 (some .int) 7 111 2 12 a u0 [.ref (a 8 0), .int x1, .int x2] out.1 (some (.int out.2.1)) out.2.2 := by
  refine CtX.start (by decide) (Nat.le_of_ble_eq_true rfl) ?_
  intro p e s m args below meth c ls hT0 C hr hR hS hl
  have C : Cx E p s m args meth c cX8_told 4 RX8 := C
  have hl : lv_has ls 4 [(0, .ref (a 8 0)), (1, .int x1), (2, .int x2)] := hl
  have hx := C.1
  have hb := C.2.1
  unfold mX8_told at h
  refine lv_aload_n hx hb dX8_told_0 rfl (lv_at hl 0 rfl) ?_
  refine lv_iload_n hx hb dX8_told_1 rfl (lv_at hl 1 rfl) ?_
  obtain ⟨t101, hc101, h⟩ := ob h
  refine r_callXV (Qc := QX E a out.1 (some (.int out.2.1)) out.2.2) (mc0 := 2) (ms0 := 12) (As := [.int x1]) (rest := []) (r := 8) (i := 0) C hT0 (vX8_requireScene hfl hc101) hR hS (lv0 (by decide) (by decide)) (by decide) ml_X8_128 mw_X8_requireScene rfl ⟨Nat.le_of_ble_eq_true rfl, Nat.le_of_ble_eq_true rfl, Nat.le_of_ble_eq_true rfl, Nat.le_of_ble_eq_true rfl⟩ ⟨Nat.le_of_ble_eq_true rfl, Nat.le_of_ble_eq_true rfl⟩ hl.1 rfl (Nat.le_of_ble_eq_true rfl) dX8_told_2 (fun hk => ?_) (fun hk H locs hR hS => ?_)
  · rw [xq_ne hk] at h
    cases h
    exact fun _ q => q
  rw [xq_0 hk] at h
  refine lv_iload_n hx hb dX8_told_5 rfl (lv_at hl 2 rfl) ?_
  obtain ⟨x102, hz, h⟩ := ob h
  have Kj103 : ∀ (H : Heap) (locs : List Loc) (ls : Array Slot), Rel E a u0 H → va_S (AE E) s.heap H locs → lv_has ls 4 [(0, .ref (a 8 0)), (1, .int x1), (2, .int x2)] → W p l e { frames := 7, cells := 2, slots := 12, locals := 111 } s m args below meth c H locs 1 6 (vx_MQ below (QX E a out.1 (some (.int out.2.1)) out.2.2) (XW E a out.1 out.2.2) args s 2 12 (AE E)) (F0 m 19 ls [.int x102]) := by
    intro H locs ls hR hS hl
    clear hz
    obtain ⟨t104, hc104, h⟩ := ob h
    refine r_callXS (Qc := QX E a out.1 (some (.int out.2.1)) out.2.2) (mc0 := 2) (ms0 := 12) (As := [.int x102]) (rest := []) C hT0 (vX8_require hfl hc104) hR hS ml_X8_105 ms_X8_require rfl ⟨Nat.le_of_ble_eq_true rfl, Nat.le_of_ble_eq_true rfl, Nat.le_of_ble_eq_true rfl, Nat.le_of_ble_eq_true rfl⟩ ⟨Nat.le_of_ble_eq_true rfl, Nat.le_of_ble_eq_true rfl⟩ hl.1 rfl (Nat.le_of_ble_eq_true rfl) dX8_told_19 (fun hk => ?_) (fun hk H locs hR hS => ?_)
    · rw [xq_ne hk] at h
      cases h
      exact fun _ q => q
    rw [xq_0 hk] at h
    refine lv_aload_n hx hb dX8_told_22 rfl (lv_at hl 0 rfl) ?_
    refine r_get C hR 8 0 1 (v := .ref (a 50 0)) (lv0 (by decide) (by decide)) (by decide) (by decide) rfl fl_X8_18 dX8_told_23 ?_
    refine lv_iload_n hx hb dX8_told_26 rfl (lv_at hl 1 rfl) ?_
    obtain ⟨k105, hk105, h⟩ := ob h
    have hLk105 : k105 < cntS 3 := by have q1 := (ck_in hk105).2.2; have q2 : cntS 3 = 7 := rfl; omega
    refine r_aald C hR 50 0 3 0 2 (lv0 (by decide) (by decide)) (by decide) rfl rfl rfl (fun _ => rfl) rfl hk105 dX8_told_27 ?_
    refine lv_astore_n (lv' := [(3, .ref (a 3 k105)), (0, .ref (a 8 0)), (1, .int x1), (2, .int x2)]) hx hb dX8_told_28 rfl hl (by decide) rfl (fun ls hl => ?_)
    refine lv_iload_n hx hb dX8_told_29 rfl (lv_at hl 3 rfl) ?_
    by_cases c_106 : x2 = 0
    · rw [if_pos c_106] at h
      refine sw_in c_106 hx hb dX8_told_30 (by decide) (by decide) rfl (by decide) (tgt := 64) ?_
      refine lv_aload_n hx hb dX8_told_64 rfl (lv_at hl 0 rfl) ?_
      refine r_get C hR 3 k105 0 (v := .int (gI u0 3 k105 0)) (lv0 hLk105 (by decide)) (by decide) (by decide) rfl fl_X8_131 dX8_told_65 ?_
      cases h
      exact x_ret (e_iret C hr hR hS (Nat.le_of_ble_eq_true rfl) (Nat.le_of_ble_eq_true rfl) dX8_told_68)
    rw [if_neg c_106] at h
    by_cases c_107 : x2 = 1
    · rw [if_pos c_107] at h
      refine sw_in c_107 hx hb dX8_told_30 (by decide) (by decide) rfl (by decide) (tgt := 69) ?_
      refine lv_aload_n hx hb dX8_told_69 rfl (lv_at hl 0 rfl) ?_
      refine r_get C hR 3 k105 3 (v := .int (gI u0 3 k105 3)) (lv0 hLk105 (by decide)) (by decide) (by decide) rfl fl_X8_134 dX8_told_70 ?_
      cases h
      exact x_ret (e_iret C hr hR hS (Nat.le_of_ble_eq_true rfl) (Nat.le_of_ble_eq_true rfl) dX8_told_73)
    rw [if_neg c_107] at h
    by_cases c_108 : x2 = 2
    · rw [if_pos c_108] at h
      refine sw_in c_108 hx hb dX8_told_30 (by decide) (by decide) rfl (by decide) (tgt := 74) ?_
      refine lv_aload_n hx hb dX8_told_74 rfl (lv_at hl 0 rfl) ?_
      refine r_get C hR 3 k105 5 (v := .int (gI u0 3 k105 5)) (lv0 hLk105 (by decide)) (by decide) (by decide) rfl fl_X8_137 dX8_told_75 ?_
      cases h
      exact x_ret (e_iret C hr hR hS (Nat.le_of_ble_eq_true rfl) (Nat.le_of_ble_eq_true rfl) dX8_told_78)
    rw [if_neg c_108] at h
    by_cases c_109 : x2 = 3
    · rw [if_pos c_109] at h
      refine sw_in c_109 hx hb dX8_told_30 (by decide) (by decide) rfl (by decide) (tgt := 79) ?_
      refine lv_aload_n hx hb dX8_told_79 rfl (lv_at hl 0 rfl) ?_
      refine r_get C hR 3 k105 11 (v := .int (gI u0 3 k105 11)) (lv0 hLk105 (by decide)) (by decide) (by decide) rfl fl_X8_140 dX8_told_80 ?_
      cases h
      exact x_ret (e_iret C hr hR hS (Nat.le_of_ble_eq_true rfl) (Nat.le_of_ble_eq_true rfl) dX8_told_83)
    rw [if_neg c_109] at h
    by_cases c_110 : x2 = 4
    · rw [if_pos c_110] at h
      refine sw_in c_110 hx hb dX8_told_30 (by decide) (by decide) rfl (by decide) (tgt := 84) ?_
      refine lv_aload_n hx hb dX8_told_84 rfl (lv_at hl 0 rfl) ?_
      refine r_get C hR 3 k105 9 (v := .int (gI u0 3 k105 9)) (lv0 hLk105 (by decide)) (by decide) (by decide) rfl fl_X8_143 dX8_told_85 ?_
      cases h
      exact x_ret (e_iret C hr hR hS (Nat.le_of_ble_eq_true rfl) (Nat.le_of_ble_eq_true rfl) dX8_told_88)
    rw [if_neg c_110] at h
    refine lv_tableOut (tgt := 89) hx hb dX8_told_30 (by have z0 := sw_ne (k := 0) c_106 rfl; have z1 := sw_ne (k := 1) c_107 rfl; have z2 := sw_ne (k := 2) c_108 rfl; have z3 := sw_ne (k := 3) c_109 rfl; have z4 := sw_ne (k := 4) c_110 rfl; omega) (by decide) ?_
    refine lv_aload_n hx hb dX8_told_89 rfl (lv_at hl 0 rfl) ?_
    refine r_get C hR 3 k105 10 (v := .int (gI u0 3 k105 10)) (lv0 hLk105 (by decide)) (by decide) (by decide) rfl fl_X8_146 dX8_told_90 ?_
    cases h
    exact x_ret (e_iret C hr hR hS (Nat.le_of_ble_eq_true rfl) (Nat.le_of_ble_eq_true rfl) dX8_told_93)
  clear h
  have h := hz
  clear hz
  refine jp_cut h (fun j111 hj111 h => ?_)
  have Kj111 : ∀  (H : Heap) (locs : List Loc) (ls : Array Slot), j111 = some x102 → Rel E a u0 H → va_S (AE E) s.heap H locs → lv_has ls 4 [(0, .ref (a 8 0)), (1, .int x1), (2, .int x2)] → W p l e { frames := 7, cells := 2, slots := 12, locals := 111 } s m args below meth c H locs 1 6 (vx_MQ below (QX E a out.1 (some (.int out.2.1)) out.2.2) (XW E a out.1 out.2.2) args s 2 12 (AE E)) (F0 m 18 ls []) := by
    intro  H locs ls h hR hS hl
    replace h := jx0 hj111 h
    refine lv_iconst (v := 0) hx hb dX8_told_18 (by decide) ?_
    cases h
    exact Kj103 _ _ _ hR hS (lv_sub hl [0, 1, 2] rfl)
  refine lv_if_lt (tgt := 18) hx hb dX8_told_6 (by decide) (fun c_112 => ?_) (fun c_112 => ?_)
  · rw [if_pos c_112] at h
    exact Kj111  _ _ _ h hR hS (lv_sub hl [0, 1, 2] rfl)
  · rw [if_neg c_112] at h
    refine lv_iload_n hx hb dX8_told_9 rfl (lv_at hl 2 rfl) ?_
    refine lv_iconst (v := 5) hx hb dX8_told_10 (by decide) ?_
    refine lv_icmp_gt (tgt := 18) hx hb dX8_told_11 (by decide) (fun c_113 => ?_) (fun c_113 => ?_)
    · rw [if_pos c_113] at h
      exact Kj111  _ _ _ h hR hS (lv_sub hl [0, 1, 2] rfl)
    · rw [if_neg c_113] at h
      refine lv_iconst (v := 1) hx hb dX8_told_14 (by decide) ?_
      refine lv_goto (tgt := 19) hx hb dX8_told_15 (by decide) ?_
      cases h
      exact Kj103 _ _ _ hR hS (lv_sub hl [0, 1, 2] rfl)
set_option maxHeartbeats 4000000 in
set_option maxRecDepth 100000 in
theorem vX8_thing {l : Launch} (hfl : l.stackTraces = false) {E : EV} {a : Nat → Nat → Nat} {u0 : HS} {x1 : Int32} {x2 : Int32} {x3 : Int32} {x4 : Int32} {out : (Nat × Int32 × HS)} (h : mX8_thing u0 x1 x2 x3 x4 = some out) : CtX l E yX8_thing cX8_thing 7 (some .int) 7 111 2 12 a u0 [.ref (a 8 0), .int x1, .int x2, .int x3, .int x4] out.1 (some (.int out.2.1)) out.2.2 := by
  refine CtX.start (by decide) (Nat.le_of_ble_eq_true rfl) ?_
  intro p e s m args below meth c ls hT0 C hr hR hS hl
  have C : Cx E p s m args meth c cX8_thing 7 RX8 := C
  have hl : lv_has ls 7 [(0, .ref (a 8 0)), (1, .int x1), (2, .int x2), (3, .int x3), (4, .int x4)] := hl
  have hx := C.1
  have hb := C.2.1
  unfold mX8_thing at h
  refine lv_aload_n hx hb dX8_thing_0 rfl (lv_at hl 0 rfl) ?_
  refine lv_iload_n hx hb dX8_thing_1 rfl (lv_at hl 1 rfl) ?_
  obtain ⟨t101, hc101, h⟩ := ob h
  refine r_callXV (Qc := QX E a out.1 (some (.int out.2.1)) out.2.2) (mc0 := 2) (ms0 := 12) (As := [.int x1]) (rest := []) (r := 8) (i := 0) C hT0 (vX8_requireScene hfl hc101) hR hS (lv0 (by decide) (by decide)) (by decide) ml_X8_128 mw_X8_requireScene rfl ⟨Nat.le_of_ble_eq_true rfl, Nat.le_of_ble_eq_true rfl, Nat.le_of_ble_eq_true rfl, Nat.le_of_ble_eq_true rfl⟩ ⟨Nat.le_of_ble_eq_true rfl, Nat.le_of_ble_eq_true rfl⟩ hl.1 rfl (Nat.le_of_ble_eq_true rfl) dX8_thing_2 (fun hk => ?_) (fun hk H locs hR hS => ?_)
  · rw [xq_ne hk] at h
    cases h
    exact fun _ q => q
  rw [xq_0 hk] at h
  refine lv_aload_n hx hb dX8_thing_5 rfl (lv_at hl 0 rfl) ?_
  refine r_get C hR 8 0 1 (v := .ref (a 50 0)) (lv0 (by decide) (by decide)) (by decide) (by decide) rfl fl_X8_18 dX8_thing_6 ?_
  refine lv_iload_n hx hb dX8_thing_9 rfl (lv_at hl 1 rfl) ?_
  obtain ⟨k102, hk102, h⟩ := ob h
  have hLk102 : k102 < cntS 3 := by have q1 := (ck_in hk102).2.2; have q2 : cntS 3 = 7 := rfl; omega
  refine r_aald C hR 50 0 3 0 2 (lv0 (by decide) (by decide)) (by decide) rfl rfl rfl (fun _ => rfl) rfl hk102 dX8_thing_10 ?_
  refine lv_astore (lv' := [(5, .ref (a 3 k102)), (0, .ref (a 8 0)), (1, .int x1), (2, .int x2), (3, .int x3), (4, .int x4)]) hx hb dX8_thing_11 hl (by decide) rfl (fun ls hl => ?_)
  refine lv_iload_n hx hb dX8_thing_13 rfl (lv_at hl 3 rfl) ?_
  obtain ⟨x103, hz, h⟩ := ob h
  have Kj104 : ∀ (H : Heap) (locs : List Loc) (ls : Array Slot), Rel E a u0 H → va_S (AE E) s.heap H locs → lv_has ls 7 [(2, .int x2), (3, .int x3), (4, .int x4), (5, .ref (a 3 k102))] → W p l e { frames := 7, cells := 2, slots := 12, locals := 111 } s m args below meth c H locs 1 6 (vx_MQ below (QX E a out.1 (some (.int out.2.1)) out.2.2) (XW E a out.1 out.2.2) args s 2 12 (AE E)) (F0 m 49 ls [.int x103]) := by
    intro H locs ls hR hS hl
    clear hz
    obtain ⟨t105, hc105, h⟩ := ob h
    refine r_callXS (Qc := QX E a out.1 (some (.int out.2.1)) out.2.2) (mc0 := 2) (ms0 := 12) (As := [.int x103]) (rest := []) C hT0 (vX8_require hfl hc105) hR hS ml_X8_105 ms_X8_require rfl ⟨Nat.le_of_ble_eq_true rfl, Nat.le_of_ble_eq_true rfl, Nat.le_of_ble_eq_true rfl, Nat.le_of_ble_eq_true rfl⟩ ⟨Nat.le_of_ble_eq_true rfl, Nat.le_of_ble_eq_true rfl⟩ hl.1 rfl (Nat.le_of_ble_eq_true rfl) dX8_thing_49 (fun hk => ?_) (fun hk H locs hR hS => ?_)
    · rw [xq_ne hk] at h
      cases h
      exact fun _ q => q
    rw [xq_0 hk] at h
    refine lv_aload hx hb dX8_thing_52 (lv_at hl 3 rfl) ?_
    refine lv_iload_n hx hb dX8_thing_54 rfl (lv_at hl 0 rfl) ?_
    refine lv_iload_n hx hb dX8_thing_55 rfl (lv_at hl 1 rfl) ?_
    obtain ⟨x107, hc106, h⟩ := ob h
    refine r_callV1 (As := [.int x2, .int x3]) (rest := []) (r := 3) (i := k102) C (vX3_placeAt hLk102 hc106) hR hS (lv0 hLk102 (by decide)) (by decide) ml_X8_153 mw_X3_placeAt rfl ⟨Nat.le_of_ble_eq_true rfl, Nat.le_of_ble_eq_true rfl, Nat.le_of_ble_eq_true rfl, Nat.le_of_ble_eq_true rfl⟩ hl.1 rfl (Nat.le_of_ble_eq_true rfl) dX8_thing_56 (fun H locs hR hS => ?_)
    refine lv_istore (lv' := [(6, .int x107), (2, .int x2), (3, .int x3), (4, .int x4), (5, .ref (a 3 k102))]) hx hb dX8_thing_59 hl (by decide) rfl (fun ls hl => ?_)
    refine lv_iload hx hb dX8_thing_61 (lv_at hl 3 rfl) ?_
    by_cases c_108 : x4 = 0
    · rw [if_pos c_108] at h
      refine sw_in c_108 hx hb dX8_thing_63 (by decide) (by decide) rfl (by decide) (tgt := 96) ?_
      refine lv_iload hx hb dX8_thing_96 (lv_at hl 0 rfl) ?_
      refine lv_iconst (v := (-1)) hx hb dX8_thing_98 (by decide) ?_
      refine lv_icmp_ne (tgt := 106) hx hb dX8_thing_99 (by decide) (fun c_109 => ?_) (fun c_109 => ?_)
      · rw [if_neg c_109] at h
        refine lv_iload hx hb dX8_thing_106 (lv_at hl 0 rfl) ?_
        refine lv_bipush (v := 100) hx hb dX8_thing_108 (by decide) ?_
        refine lv_idiv hx hb dX8_thing_110 (by decide) ?_
        cases h
        exact x_ret (e_iret C hr hR hS (Nat.le_of_ble_eq_true rfl) (Nat.le_of_ble_eq_true rfl) dX8_thing_111)
      · rw [if_pos c_109] at h
        refine lv_iconst (v := (-1)) hx hb dX8_thing_102 (by decide) ?_
        refine lv_goto (tgt := 111) hx hb dX8_thing_103 (by decide) ?_
        cases h
        exact x_ret (e_iret C hr hR hS (Nat.le_of_ble_eq_true rfl) (Nat.le_of_ble_eq_true rfl) dX8_thing_111)
    rw [if_neg c_108] at h
    by_cases c_110 : x4 = 1
    · rw [if_pos c_110] at h
      refine sw_in c_110 hx hb dX8_thing_63 (by decide) (by decide) rfl (by decide) (tgt := 112) ?_
      refine lv_iload hx hb dX8_thing_112 (lv_at hl 0 rfl) ?_
      refine lv_iconst (v := (-1)) hx hb dX8_thing_114 (by decide) ?_
      refine lv_icmp_ne (tgt := 122) hx hb dX8_thing_115 (by decide) (fun c_111 => ?_) (fun c_111 => ?_)
      · rw [if_neg c_111] at h
        refine lv_iload hx hb dX8_thing_122 (lv_at hl 0 rfl) ?_
        refine lv_bipush (v := 100) hx hb dX8_thing_124 (by decide) ?_
        refine lv_irem hx hb dX8_thing_126 (by decide) ?_
        cases h
        exact x_ret (e_iret C hr hR hS (Nat.le_of_ble_eq_true rfl) (Nat.le_of_ble_eq_true rfl) dX8_thing_127)
      · rw [if_pos c_111] at h
        refine lv_iconst (v := (-1)) hx hb dX8_thing_118 (by decide) ?_
        refine lv_goto (tgt := 127) hx hb dX8_thing_119 (by decide) ?_
        cases h
        exact x_ret (e_iret C hr hR hS (Nat.le_of_ble_eq_true rfl) (Nat.le_of_ble_eq_true rfl) dX8_thing_127)
    rw [if_neg c_110] at h
    by_cases c_112 : x4 = 2
    · rw [if_pos c_112] at h
      refine sw_in c_112 hx hb dX8_thing_63 (by decide) (by decide) rfl (by decide) (tgt := 128) ?_
      refine lv_aload hx hb dX8_thing_128 (lv_at hl 4 rfl) ?_
      refine lv_iload_n hx hb dX8_thing_130 rfl (lv_at hl 1 rfl) ?_
      refine lv_iload_n hx hb dX8_thing_131 rfl (lv_at hl 2 rfl) ?_
      obtain ⟨x114, hc113, h⟩ := ob h
      refine r_callV1 (As := [.int x2, .int x3]) (rest := []) (r := 3) (i := k102) C (vX3_tintAt hLk102 hc113) hR hS (lv0 hLk102 (by decide)) (by decide) ml_X8_157 mw_X3_tintAt rfl ⟨Nat.le_of_ble_eq_true rfl, Nat.le_of_ble_eq_true rfl, Nat.le_of_ble_eq_true rfl, Nat.le_of_ble_eq_true rfl⟩ hl.1 rfl (Nat.le_of_ble_eq_true rfl) dX8_thing_132 (fun H locs hR hS => ?_)
      cases h
      exact x_ret (e_iret C hr hR hS (Nat.le_of_ble_eq_true rfl) (Nat.le_of_ble_eq_true rfl) dX8_thing_135)
    rw [if_neg c_112] at h
    by_cases c_115 : x4 = 3
    · rw [if_pos c_115] at h
      refine sw_in c_115 hx hb dX8_thing_63 (by decide) (by decide) rfl (by decide) (tgt := 136) ?_
      refine lv_aload hx hb dX8_thing_136 (lv_at hl 4 rfl) ?_
      refine lv_iload_n hx hb dX8_thing_138 rfl (lv_at hl 1 rfl) ?_
      refine lv_iload_n hx hb dX8_thing_139 rfl (lv_at hl 2 rfl) ?_
      obtain ⟨x117, hc116, h⟩ := ob h
      refine r_callV1 (As := [.int x2, .int x3]) (rest := []) (r := 3) (i := k102) C (vX3_paceAt hLk102 hc116) hR hS (lv0 hLk102 (by decide)) (by decide) ml_X8_160 mw_X3_paceAt rfl ⟨Nat.le_of_ble_eq_true rfl, Nat.le_of_ble_eq_true rfl, Nat.le_of_ble_eq_true rfl, Nat.le_of_ble_eq_true rfl⟩ hl.1 rfl (Nat.le_of_ble_eq_true rfl) dX8_thing_140 (fun H locs hR hS => ?_)
      cases h
      exact x_ret (e_iret C hr hR hS (Nat.le_of_ble_eq_true rfl) (Nat.le_of_ble_eq_true rfl) dX8_thing_143)
    rw [if_neg c_115] at h
    by_cases c_118 : x4 = 4
    · rw [if_pos c_118] at h
      refine sw_in c_118 hx hb dX8_thing_63 (by decide) (by decide) rfl (by decide) (tgt := 144) ?_
      refine lv_aload hx hb dX8_thing_144 (lv_at hl 4 rfl) ?_
      refine r_get C hR 3 k102 2 (v := .ref (a 38 k102)) (lv0 hLk102 (by decide)) (by decide) (by decide) rfl fl_X8_163 dX8_thing_146 ?_
      refine lv_iload_n hx hb dX8_thing_149 rfl (lv_at hl 1 rfl) ?_
      obtain ⟨k119, hk119, h⟩ := ob h
      refine r_ald C hR 38 k102 (lv0 hLk102 (by decide)) (by decide) rfl (fun _ => rfl) rfl hk119 dX8_thing_150 ?_
      cases h
      exact x_ret (e_iret C hr hR hS (Nat.le_of_ble_eq_true rfl) (Nat.le_of_ble_eq_true rfl) dX8_thing_151)
    rw [if_neg c_118] at h
    refine lv_tableOut (tgt := 152) hx hb dX8_thing_63 (by have z0 := sw_ne (k := 0) c_108 rfl; have z1 := sw_ne (k := 1) c_110 rfl; have z2 := sw_ne (k := 2) c_112 rfl; have z3 := sw_ne (k := 3) c_115 rfl; have z4 := sw_ne (k := 4) c_118 rfl; omega) (by decide) ?_
    refine lv_aload hx hb dX8_thing_152 (lv_at hl 4 rfl) ?_
    refine lv_iload_n hx hb dX8_thing_154 rfl (lv_at hl 1 rfl) ?_
    refine lv_iload_n hx hb dX8_thing_155 rfl (lv_at hl 2 rfl) ?_
    obtain ⟨x121, hc120, h⟩ := ob h
    refine r_callV1 (As := [.int x2, .int x3]) (rest := []) (r := 3) (i := k102) C (vX3_turned hLk102 hc120) hR hS (lv0 hLk102 (by decide)) (by decide) ml_X8_166 mw_X3_turned rfl ⟨Nat.le_of_ble_eq_true rfl, Nat.le_of_ble_eq_true rfl, Nat.le_of_ble_eq_true rfl, Nat.le_of_ble_eq_true rfl⟩ hl.1 rfl (Nat.le_of_ble_eq_true rfl) dX8_thing_156 (fun H locs hR hS => ?_)
    refine lv_if_eq (tgt := 166) hx hb dX8_thing_159 (by decide) (fun c_122 => ?_) (fun c_122 => ?_)
    · rw [if_pos c_122] at h
      refine lv_iconst (v := 0) hx hb dX8_thing_166 (by decide) ?_
      cases h
      exact x_ret (e_iret C hr hR hS (Nat.le_of_ble_eq_true rfl) (Nat.le_of_ble_eq_true rfl) dX8_thing_167)
    · rw [if_neg c_122] at h
      refine lv_iconst (v := 1) hx hb dX8_thing_162 (by decide) ?_
      refine lv_goto (tgt := 167) hx hb dX8_thing_163 (by decide) ?_
      cases h
      exact x_ret (e_iret C hr hR hS (Nat.le_of_ble_eq_true rfl) (Nat.le_of_ble_eq_true rfl) dX8_thing_167)
  clear h
  have h := hz
  clear hz
  refine jp_cut h (fun j123 hj123 h => ?_)
  have Kj123 : ∀  (H : Heap) (locs : List Loc) (ls : Array Slot), j123 = some x103 → Rel E a u0 H → va_S (AE E) s.heap H locs → lv_has ls 7 [(2, .int x2), (3, .int x3), (4, .int x4), (5, .ref (a 3 k102))] → W p l e { frames := 7, cells := 2, slots := 12, locals := 111 } s m args below meth c H locs 1 6 (vx_MQ below (QX E a out.1 (some (.int out.2.1)) out.2.2) (XW E a out.1 out.2.2) args s 2 12 (AE E)) (F0 m 48 ls []) := by
    intro  H locs ls h hR hS hl
    replace h := jx0 hj123 h
    refine lv_iconst (v := 0) hx hb dX8_thing_48 (by decide) ?_
    cases h
    exact Kj104 _ _ _ hR hS (lv_sub hl [0, 1, 2, 3] rfl)
  refine lv_if_lt (tgt := 48) hx hb dX8_thing_14 (by decide) (fun c_124 => ?_) (fun c_124 => ?_)
  · rw [if_pos c_124] at h
    exact Kj123  _ _ _ h hR hS (lv_sub hl [3, 4, 5, 0] rfl)
  · rw [if_neg c_124] at h
    refine lv_iload_n hx hb dX8_thing_17 rfl (lv_at hl 3 rfl) ?_
    refine lv_aload hx hb dX8_thing_18 (lv_at hl 0 rfl) ?_
    refine r_get C hR 3 k102 0 (v := .int (gI u0 3 k102 0)) (lv0 hLk102 (by decide)) (by decide) (by decide) rfl fl_X8_131 dX8_thing_20 ?_
    refine lv_icmp_ge (tgt := 48) hx hb dX8_thing_23 (by decide) (fun c_125 => ?_) (fun c_125 => ?_)
    · rw [if_pos c_125] at h
      exact Kj123  _ _ _ h hR hS (lv_sub hl [3, 4, 5, 0] rfl)
    · rw [if_neg c_125] at h
      refine lv_iload_n hx hb dX8_thing_26 rfl (lv_at hl 4 rfl) ?_
      obtain ⟨x127, hc126, h⟩ := ob h
      refine r_callS1 (As := [.int x3]) (rest := []) C (vX8_isTenth hc126) hR hS ml_X8_149 ms_X8_isTenth rfl ⟨Nat.le_of_ble_eq_true rfl, Nat.le_of_ble_eq_true rfl, Nat.le_of_ble_eq_true rfl, Nat.le_of_ble_eq_true rfl⟩ hl.1 rfl (Nat.le_of_ble_eq_true rfl) dX8_thing_27 (fun H locs hR hS => ?_)
      refine lv_if_eq (tgt := 48) hx hb dX8_thing_30 (by decide) (fun c_128 => ?_) (fun c_128 => ?_)
      · rw [if_pos c_128] at h
        exact Kj123  _ _ _ h hR hS (lv_sub hl [3, 4, 5, 0] rfl)
      · rw [if_neg c_128] at h
        refine lv_iload hx hb dX8_thing_33 (lv_at hl 5 rfl) ?_
        refine lv_if_lt (tgt := 48) hx hb dX8_thing_35 (by decide) (fun c_129 => ?_) (fun c_129 => ?_)
        · rw [if_pos c_129] at h
          exact Kj123  _ _ _ h hR hS (lv_sub hl [3, 4, 5, 0] rfl)
        · rw [if_neg c_129] at h
          refine lv_iload hx hb dX8_thing_38 (lv_at hl 5 rfl) ?_
          refine lv_iconst (v := 5) hx hb dX8_thing_40 (by decide) ?_
          refine lv_icmp_gt (tgt := 48) hx hb dX8_thing_41 (by decide) (fun c_130 => ?_) (fun c_130 => ?_)
          · rw [if_pos c_130] at h
            exact Kj123  _ _ _ h hR hS (lv_sub hl [3, 4, 5, 0] rfl)
          · rw [if_neg c_130] at h
            refine lv_iconst (v := 1) hx hb dX8_thing_44 (by decide) ?_
            refine lv_goto (tgt := 49) hx hb dX8_thing_45 (by decide) ?_
            cases h
            exact Kj104 _ _ _ hR hS (lv_sub hl [3, 4, 5, 0] rfl)
set_option maxHeartbeats 4000000 in
set_option maxRecDepth 100000 in
theorem vX8_requireTask {l : Launch} (hfl : l.stackTraces = false) {E : EV} {a : Nat → Nat → Nat} {u0 : HS} {x1 : Int32} {out : Nat} (h : mX8_requireTask u0 x1 = some out) : CtX l E yX8_requireTask cX8_requireTask 2 none 6 90 1 6 a u0 [.ref (a 8 0), .int x1] out none u0 := by
  refine CtX.start (by decide) (Nat.le_of_ble_eq_true rfl) ?_
  intro p e s m args below meth c ls hT0 C hr hR hS hl
  have C : Cx E p s m args meth c cX8_requireTask 2 RX8 := C
  have hl : lv_has ls 2 [(0, .ref (a 8 0)), (1, .int x1)] := hl
  have hx := C.1
  have hb := C.2.1
  unfold mX8_requireTask at h
  refine lv_iload_n hx hb dX8_requireTask_0 rfl (lv_at hl 1 rfl) ?_
  refine jp_cut h (fun j101 hj101 h => ?_)
  have Kj101 : ∀  (H : Heap) (locs : List Loc) (ls : Array Slot), j101 = some out → Rel E a u0 H → va_S (AE E) s.heap H locs → lv_has ls 2 [] → W p l e { frames := 6, cells := 1, slots := 6, locals := 90 } s m args below meth c H locs 0 0 (vx_MQ below (QX E a out none u0) (XW E a out u0) args s 1 6 (AE E)) (F0 m 12 ls []) := by
    intro  H locs ls h hR hS hl
    replace h := jx0 hj101 h
    cases h
    exact r_throw3 hfl C hT0 hR hS hl.1 dX8_requireTask_12 dX8_requireTask_15 dX8_requireTask_16 dX8_requireTask_19 (Nat.le_of_ble_eq_true rfl) (Nat.le_of_ble_eq_true rfl) (Nat.le_of_ble_eq_true rfl) (Nat.le_of_ble_eq_true rfl) (Nat.le_of_ble_eq_true rfl) (Nat.le_of_ble_eq_true rfl)
  refine lv_if_lt (tgt := 12) hx hb dX8_requireTask_1 (by decide) (fun c_102 => ?_) (fun c_102 => ?_)
  · rw [if_pos c_102] at h
    exact Kj101  _ _ _ h hR hS (lv_sub hl [] rfl)
  · rw [if_neg c_102] at h
    refine lv_iload_n hx hb dX8_requireTask_4 rfl (lv_at hl 1 rfl) ?_
    refine lv_aload_n hx hb dX8_requireTask_5 rfl (lv_at hl 0 rfl) ?_
    refine r_get C hR 8 0 4 (v := .int (gI u0 8 0 4)) (lv0 (by decide) (by decide)) (by decide) (by decide) rfl fl_X8_32 dX8_requireTask_6 ?_
    refine lv_icmp_lt (tgt := 20) hx hb dX8_requireTask_9 (by decide) (fun c_103 => ?_) (fun c_103 => ?_)
    · rw [if_pos c_103] at h
      cases h
      exact x_ret (e_vret C hr hR hS (Nat.le_of_ble_eq_true rfl) (Nat.le_of_ble_eq_true rfl) dX8_requireTask_20)
    · rw [if_neg c_103] at h
      exact Kj101  _ _ _ h hR hS (lv_sub hl [] rfl)
set_option maxHeartbeats 4000000 in
set_option maxRecDepth 100000 in
theorem vX8_kept {l : Launch} (hfl : l.stackTraces = false) {E : EV} {a : Nat → Nat → Nat} {u0 : HS} {x1 : Int32} {x2 : Int32} {out : (Nat × Int32 × HS)} (h : mX8_kept u0 x1 x2 = some out) : CtX l E yX8_kept cX8_kept 4 (some .int) 7 111 2 12 a u0 [.ref (a 8 0), .int x1, .int x2] out.1 (some (.int out.2.1)) out.2.2 := by
  refine CtX.start (by decide) (Nat.le_of_ble_eq_true rfl) ?_
  intro p e s m args below meth c ls hT0 C hr hR hS hl
  have C : Cx E p s m args meth c cX8_kept 4 RX8 := C
  have hl : lv_has ls 4 [(0, .ref (a 8 0)), (1, .int x1), (2, .int x2)] := hl
  have hx := C.1
  have hb := C.2.1
  unfold mX8_kept at h
  refine lv_aload_n hx hb dX8_kept_0 rfl (lv_at hl 0 rfl) ?_
  refine lv_iload_n hx hb dX8_kept_1 rfl (lv_at hl 1 rfl) ?_
  obtain ⟨t101, hc101, h⟩ := ob h
  refine r_callXV (Qc := QX E a out.1 (some (.int out.2.1)) out.2.2) (mc0 := 2) (ms0 := 12) (As := [.int x1]) (rest := []) (r := 8) (i := 0) C hT0 (vX8_requireTask hfl hc101) hR hS (lv0 (by decide) (by decide)) (by decide) ml_X8_170 mw_X8_requireTask rfl ⟨Nat.le_of_ble_eq_true rfl, Nat.le_of_ble_eq_true rfl, Nat.le_of_ble_eq_true rfl, Nat.le_of_ble_eq_true rfl⟩ ⟨Nat.le_of_ble_eq_true rfl, Nat.le_of_ble_eq_true rfl⟩ hl.1 rfl (Nat.le_of_ble_eq_true rfl) dX8_kept_2 (fun hk => ?_) (fun hk H locs hR hS => ?_)
  · rw [xq_ne hk] at h
    cases h
    exact fun _ q => q
  rw [xq_0 hk] at h
  refine lv_iload_n hx hb dX8_kept_5 rfl (lv_at hl 2 rfl) ?_
  obtain ⟨x102, hz, h⟩ := ob h
  have Kj103 : ∀ (H : Heap) (locs : List Loc) (ls : Array Slot), Rel E a u0 H → va_S (AE E) s.heap H locs → lv_has ls 4 [(0, .ref (a 8 0)), (1, .int x1), (2, .int x2)] → W p l e { frames := 7, cells := 2, slots := 12, locals := 111 } s m args below meth c H locs 1 6 (vx_MQ below (QX E a out.1 (some (.int out.2.1)) out.2.2) (XW E a out.1 out.2.2) args s 2 12 (AE E)) (F0 m 19 ls [.int x102]) := by
    intro H locs ls hR hS hl
    clear hz
    obtain ⟨t104, hc104, h⟩ := ob h
    refine r_callXS (Qc := QX E a out.1 (some (.int out.2.1)) out.2.2) (mc0 := 2) (ms0 := 12) (As := [.int x102]) (rest := []) C hT0 (vX8_require hfl hc104) hR hS ml_X8_105 ms_X8_require rfl ⟨Nat.le_of_ble_eq_true rfl, Nat.le_of_ble_eq_true rfl, Nat.le_of_ble_eq_true rfl, Nat.le_of_ble_eq_true rfl⟩ ⟨Nat.le_of_ble_eq_true rfl, Nat.le_of_ble_eq_true rfl⟩ hl.1 rfl (Nat.le_of_ble_eq_true rfl) dX8_kept_19 (fun hk => ?_) (fun hk H locs hR hS => ?_)
    · rw [xq_ne hk] at h
      cases h
      exact fun _ q => q
    rw [xq_0 hk] at h
    refine lv_aload_n hx hb dX8_kept_22 rfl (lv_at hl 0 rfl) ?_
    refine r_get C hR 8 0 3 (v := .ref (a 51 0)) (lv0 (by decide) (by decide)) (by decide) (by decide) rfl fl_X8_28 dX8_kept_23 ?_
    refine lv_iload_n hx hb dX8_kept_26 rfl (lv_at hl 1 rfl) ?_
    obtain ⟨k105, hk105, h⟩ := ob h
    have hLk105 : k105 < cntS 6 := by have q1 := (ck_in hk105).2.2; have q2 : cntS 6 = 7 := rfl; omega
    refine r_aald C hR 51 0 6 0 3 (lv0 (by decide) (by decide)) (by decide) rfl rfl rfl (fun _ => rfl) rfl hk105 dX8_kept_27 ?_
    refine lv_astore_n (lv' := [(3, .ref (a 6 k105)), (0, .ref (a 8 0)), (1, .int x1), (2, .int x2)]) hx hb dX8_kept_28 rfl hl (by decide) rfl (fun ls hl => ?_)
    refine lv_iload_n hx hb dX8_kept_29 rfl (lv_at hl 3 rfl) ?_
    by_cases c_106 : x2 = 0
    · rw [if_pos c_106] at h
      refine sw_in c_106 hx hb dX8_kept_30 (by decide) (by decide) rfl (by decide) (tgt := 60) ?_
      refine lv_aload_n hx hb dX8_kept_60 rfl (lv_at hl 0 rfl) ?_
      refine r_get C hR 6 k105 0 (v := .int (gI u0 6 k105 0)) (lv0 hLk105 (by decide)) (by decide) (by decide) rfl fl_X8_173 dX8_kept_61 ?_
      cases h
      exact x_ret (e_iret C hr hR hS (Nat.le_of_ble_eq_true rfl) (Nat.le_of_ble_eq_true rfl) dX8_kept_64)
    rw [if_neg c_106] at h
    by_cases c_107 : x2 = 1
    · rw [if_pos c_107] at h
      refine sw_in c_107 hx hb dX8_kept_30 (by decide) (by decide) rfl (by decide) (tgt := 65) ?_
      refine lv_aload_n hx hb dX8_kept_65 rfl (lv_at hl 0 rfl) ?_
      refine r_get C hR 6 k105 1 (v := .int (gI u0 6 k105 1)) (lv0 hLk105 (by decide)) (by decide) (by decide) rfl fl_X8_176 dX8_kept_66 ?_
      cases h
      exact x_ret (e_iret C hr hR hS (Nat.le_of_ble_eq_true rfl) (Nat.le_of_ble_eq_true rfl) dX8_kept_69)
    rw [if_neg c_107] at h
    by_cases c_108 : x2 = 2
    · rw [if_pos c_108] at h
      refine sw_in c_108 hx hb dX8_kept_30 (by decide) (by decide) rfl (by decide) (tgt := 70) ?_
      refine lv_aload_n hx hb dX8_kept_70 rfl (lv_at hl 0 rfl) ?_
      refine r_get C hR 6 k105 2 (v := .int (gI u0 6 k105 2)) (lv0 hLk105 (by decide)) (by decide) (by decide) rfl fl_X8_179 dX8_kept_71 ?_
      cases h
      exact x_ret (e_iret C hr hR hS (Nat.le_of_ble_eq_true rfl) (Nat.le_of_ble_eq_true rfl) dX8_kept_74)
    rw [if_neg c_108] at h
    by_cases c_109 : x2 = 3
    · rw [if_pos c_109] at h
      refine sw_in c_109 hx hb dX8_kept_30 (by decide) (by decide) rfl (by decide) (tgt := 75) ?_
      refine lv_aload_n hx hb dX8_kept_75 rfl (lv_at hl 0 rfl) ?_
      refine r_get C hR 6 k105 3 (v := .int (gI u0 6 k105 3)) (lv0 hLk105 (by decide)) (by decide) (by decide) rfl fl_X8_182 dX8_kept_76 ?_
      cases h
      exact x_ret (e_iret C hr hR hS (Nat.le_of_ble_eq_true rfl) (Nat.le_of_ble_eq_true rfl) dX8_kept_79)
    rw [if_neg c_109] at h
    refine lv_tableOut (tgt := 80) hx hb dX8_kept_30 (by have z0 := sw_ne (k := 0) c_106 rfl; have z1 := sw_ne (k := 1) c_107 rfl; have z2 := sw_ne (k := 2) c_108 rfl; have z3 := sw_ne (k := 3) c_109 rfl; omega) (by decide) ?_
    refine lv_aload_n hx hb dX8_kept_80 rfl (lv_at hl 0 rfl) ?_
    refine r_get C hR 6 k105 4 (v := .int (gI u0 6 k105 4)) (lv0 hLk105 (by decide)) (by decide) (by decide) rfl fl_X8_185 dX8_kept_81 ?_
    cases h
    exact x_ret (e_iret C hr hR hS (Nat.le_of_ble_eq_true rfl) (Nat.le_of_ble_eq_true rfl) dX8_kept_84)
  clear h
  have h := hz
  clear hz
  refine jp_cut h (fun j110 hj110 h => ?_)
  have Kj110 : ∀  (H : Heap) (locs : List Loc) (ls : Array Slot), j110 = some x102 → Rel E a u0 H → va_S (AE E) s.heap H locs → lv_has ls 4 [(0, .ref (a 8 0)), (1, .int x1), (2, .int x2)] → W p l e { frames := 7, cells := 2, slots := 12, locals := 111 } s m args below meth c H locs 1 6 (vx_MQ below (QX E a out.1 (some (.int out.2.1)) out.2.2) (XW E a out.1 out.2.2) args s 2 12 (AE E)) (F0 m 18 ls []) := by
    intro  H locs ls h hR hS hl
    replace h := jx0 hj110 h
    refine lv_iconst (v := 0) hx hb dX8_kept_18 (by decide) ?_
    cases h
    exact Kj103 _ _ _ hR hS (lv_sub hl [0, 1, 2] rfl)
  refine lv_if_lt (tgt := 18) hx hb dX8_kept_6 (by decide) (fun c_111 => ?_) (fun c_111 => ?_)
  · rw [if_pos c_111] at h
    exact Kj110  _ _ _ h hR hS (lv_sub hl [0, 1, 2] rfl)
  · rw [if_neg c_111] at h
    refine lv_iload_n hx hb dX8_kept_9 rfl (lv_at hl 2 rfl) ?_
    refine lv_iconst (v := 4) hx hb dX8_kept_10 (by decide) ?_
    refine lv_icmp_gt (tgt := 18) hx hb dX8_kept_11 (by decide) (fun c_112 => ?_) (fun c_112 => ?_)
    · rw [if_pos c_112] at h
      exact Kj110  _ _ _ h hR hS (lv_sub hl [0, 1, 2] rfl)
    · rw [if_neg c_112] at h
      refine lv_iconst (v := 1) hx hb dX8_kept_14 (by decide) ?_
      refine lv_goto (tgt := 19) hx hb dX8_kept_15 (by decide) ?_
      cases h
      exact Kj103 _ _ _ hR hS (lv_sub hl [0, 1, 2] rfl)
set_option maxHeartbeats 4000000 in
set_option maxRecDepth 100000 in
theorem vX8_throwsOf {l : Launch} (hfl : l.stackTraces = false) {E : EV} {a : Nat → Nat → Nat} {u0 : HS} {x1 : Int32} {x2 : Int32} {out : (Nat × Int32 × HS)} (h : mX8_throwsOf u0 x1 x2 = some out) : CtX l E yX8_throwsOf cX8_throwsOf 3 (some .int) 7 111 2 12 a u0 [.ref (a 8 0), .int x1, .int x2] out.1 (some (.int out.2.1)) out.2.2 := by
  refine CtX.start (by decide) (Nat.le_of_ble_eq_true rfl) ?_
  intro p e s m args below meth c ls hT0 C hr hR hS hl
  have C : Cx E p s m args meth c cX8_throwsOf 3 RX8 := C
  have hl : lv_has ls 3 [(0, .ref (a 8 0)), (1, .int x1), (2, .int x2)] := hl
  have hx := C.1
  have hb := C.2.1
  unfold mX8_throwsOf at h
  refine lv_aload_n hx hb dX8_throwsOf_0 rfl (lv_at hl 0 rfl) ?_
  refine lv_iload_n hx hb dX8_throwsOf_1 rfl (lv_at hl 1 rfl) ?_
  obtain ⟨t101, hc101, h⟩ := ob h
  refine r_callXV (Qc := QX E a out.1 (some (.int out.2.1)) out.2.2) (mc0 := 2) (ms0 := 12) (As := [.int x1]) (rest := []) (r := 8) (i := 0) C hT0 (vX8_requireScene hfl hc101) hR hS (lv0 (by decide) (by decide)) (by decide) ml_X8_128 mw_X8_requireScene rfl ⟨Nat.le_of_ble_eq_true rfl, Nat.le_of_ble_eq_true rfl, Nat.le_of_ble_eq_true rfl, Nat.le_of_ble_eq_true rfl⟩ ⟨Nat.le_of_ble_eq_true rfl, Nat.le_of_ble_eq_true rfl⟩ hl.1 rfl (Nat.le_of_ble_eq_true rfl) dX8_throwsOf_2 (fun hk => ?_) (fun hk H locs hR hS => ?_)
  · rw [xq_ne hk] at h
    cases h
    exact fun _ q => q
  rw [xq_0 hk] at h
  refine lv_aload_n hx hb dX8_throwsOf_5 rfl (lv_at hl 0 rfl) ?_
  refine lv_iload_n hx hb dX8_throwsOf_6 rfl (lv_at hl 2 rfl) ?_
  obtain ⟨t102, hc102, h⟩ := ob h
  refine r_callXV (Qc := QX E a out.1 (some (.int out.2.1)) out.2.2) (mc0 := 2) (ms0 := 12) (As := [.int x2]) (rest := []) (r := 8) (i := 0) C hT0 (vX8_requireTask hfl hc102) hR hS (lv0 (by decide) (by decide)) (by decide) ml_X8_170 mw_X8_requireTask rfl ⟨Nat.le_of_ble_eq_true rfl, Nat.le_of_ble_eq_true rfl, Nat.le_of_ble_eq_true rfl, Nat.le_of_ble_eq_true rfl⟩ ⟨Nat.le_of_ble_eq_true rfl, Nat.le_of_ble_eq_true rfl⟩ hl.1 rfl (Nat.le_of_ble_eq_true rfl) dX8_throwsOf_7 (fun hk => ?_) (fun hk H locs hR hS => ?_)
  · rw [xq_ne hk] at h
    cases h
    exact fun _ q => q
  rw [xq_0 hk] at h
  refine lv_aload_n hx hb dX8_throwsOf_10 rfl (lv_at hl 0 rfl) ?_
  refine r_get C hR 8 0 1 (v := .ref (a 50 0)) (lv0 (by decide) (by decide)) (by decide) (by decide) rfl fl_X8_18 dX8_throwsOf_11 ?_
  refine lv_iload_n hx hb dX8_throwsOf_14 rfl (lv_at hl 1 rfl) ?_
  obtain ⟨k103, hk103, h⟩ := ob h
  have hLk103 : k103 < cntS 3 := by have q1 := (ck_in hk103).2.2; have q2 : cntS 3 = 7 := rfl; omega
  refine r_aald C hR 50 0 3 0 2 (lv0 (by decide) (by decide)) (by decide) rfl rfl rfl (fun _ => rfl) rfl hk103 dX8_throwsOf_15 ?_
  refine lv_aload_n hx hb dX8_throwsOf_16 rfl (lv_at hl 0 rfl) ?_
  refine r_get C hR 8 0 3 (v := .ref (a 51 0)) (lv0 (by decide) (by decide)) (by decide) (by decide) rfl fl_X8_28 dX8_throwsOf_17 ?_
  refine lv_iload_n hx hb dX8_throwsOf_20 rfl (lv_at hl 2 rfl) ?_
  obtain ⟨k104, hk104, h⟩ := ob h
  have hLk104 : k104 < cntS 6 := by have q1 := (ck_in hk104).2.2; have q2 : cntS 6 = 7 := rfl; omega
  refine r_aald C hR 51 0 6 0 3 (lv0 (by decide) (by decide)) (by decide) rfl rfl rfl (fun _ => rfl) rfl hk104 dX8_throwsOf_21 ?_
  refine r_get C hR 6 k104 2 (v := .int (gI u0 6 k104 2)) (lv0 hLk104 (by decide)) (by decide) (by decide) rfl fl_X8_179 dX8_throwsOf_22 ?_
  obtain ⟨x106, hc105, h⟩ := ob h
  refine r_callV1 (As := [.int (gI u0 6 k104 2)]) (rest := []) (r := 3) (i := k103) C (vX3_throwsFrom hLk103 hc105) hR hS (lv0 hLk103 (by decide)) (by decide) ml_X8_188 mw_X3_throwsFrom rfl ⟨Nat.le_of_ble_eq_true rfl, Nat.le_of_ble_eq_true rfl, Nat.le_of_ble_eq_true rfl, Nat.le_of_ble_eq_true rfl⟩ hl.1 rfl (Nat.le_of_ble_eq_true rfl) dX8_throwsOf_25 (fun H locs hR hS => ?_)
  cases h
  exact x_ret (e_iret C hr hR hS (Nat.le_of_ble_eq_true rfl) (Nat.le_of_ble_eq_true rfl) dX8_throwsOf_28)
set_option maxHeartbeats 4000000 in
set_option maxRecDepth 100000 in
theorem vX8_looker {l : Launch} (hfl : l.stackTraces = false) {E : EV} {a : Nat → Nat → Nat} {u0 : HS} {x1 : Int32} {x2 : Int32} {x3 : Int32} {out : (Nat × Int32 × HS)} (h : mX8_looker u0 x1 x2 x3 = some out) : CtX l E yX8_looker cX8_looker 5 (some .int) 7 111 2 12 a u0 [.ref (a 8 0), .int x1, .int x2, .int x3] out.1 (some (.int out.2.1)) out.2.2 := by
  refine CtX.start (by decide) (Nat.le_of_ble_eq_true rfl) ?_
  intro p e s m args below meth c ls hT0 C hr hR hS hl
  have C : Cx E p s m args meth c cX8_looker 5 RX8 := C
  have hl : lv_has ls 5 [(0, .ref (a 8 0)), (1, .int x1), (2, .int x2), (3, .int x3)] := hl
  have hx := C.1
  have hb := C.2.1
  unfold mX8_looker at h
  refine lv_aload_n hx hb dX8_looker_0 rfl (lv_at hl 0 rfl) ?_
  refine lv_iload_n hx hb dX8_looker_1 rfl (lv_at hl 1 rfl) ?_
  obtain ⟨t101, hc101, h⟩ := ob h
  refine r_callXV (Qc := QX E a out.1 (some (.int out.2.1)) out.2.2) (mc0 := 2) (ms0 := 12) (As := [.int x1]) (rest := []) (r := 8) (i := 0) C hT0 (vX8_requireScene hfl hc101) hR hS (lv0 (by decide) (by decide)) (by decide) ml_X8_128 mw_X8_requireScene rfl ⟨Nat.le_of_ble_eq_true rfl, Nat.le_of_ble_eq_true rfl, Nat.le_of_ble_eq_true rfl, Nat.le_of_ble_eq_true rfl⟩ ⟨Nat.le_of_ble_eq_true rfl, Nat.le_of_ble_eq_true rfl⟩ hl.1 rfl (Nat.le_of_ble_eq_true rfl) dX8_looker_2 (fun hk => ?_) (fun hk H locs hR hS => ?_)
  · rw [xq_ne hk] at h
    cases h
    exact fun _ q => q
  rw [xq_0 hk] at h
  refine lv_aload_n hx hb dX8_looker_5 rfl (lv_at hl 0 rfl) ?_
  refine lv_iload_n hx hb dX8_looker_6 rfl (lv_at hl 2 rfl) ?_
  obtain ⟨t102, hc102, h⟩ := ob h
  refine r_callXV (Qc := QX E a out.1 (some (.int out.2.1)) out.2.2) (mc0 := 2) (ms0 := 12) (As := [.int x2]) (rest := []) (r := 8) (i := 0) C hT0 (vX8_requireTask hfl hc102) hR hS (lv0 (by decide) (by decide)) (by decide) ml_X8_170 mw_X8_requireTask rfl ⟨Nat.le_of_ble_eq_true rfl, Nat.le_of_ble_eq_true rfl, Nat.le_of_ble_eq_true rfl, Nat.le_of_ble_eq_true rfl⟩ ⟨Nat.le_of_ble_eq_true rfl, Nat.le_of_ble_eq_true rfl⟩ hl.1 rfl (Nat.le_of_ble_eq_true rfl) dX8_looker_7 (fun hk => ?_) (fun hk H locs hR hS => ?_)
  · rw [xq_ne hk] at h
    cases h
    exact fun _ q => q
  rw [xq_0 hk] at h
  refine lv_aload_n hx hb dX8_looker_10 rfl (lv_at hl 0 rfl) ?_
  refine r_get C hR 8 0 8 (v := .ref (a 0 0)) (lv0 (by decide) (by decide)) (by decide) (by decide) rfl fl_X8_56 dX8_looker_11 ?_
  refine lv_iload_n hx hb dX8_looker_14 rfl (lv_at hl 1 rfl) ?_
  refine lv_iload_n hx hb dX8_looker_15 rfl (lv_at hl 2 rfl) ?_
  refine lv_iload_n hx hb dX8_looker_16 rfl (lv_at hl 3 rfl) ?_
  obtain ⟨⟨x104, u105⟩, hc103, h⟩ := ob h
  replace h := bd_x (x := x104) rfl h
  replace h := bd_x (x := u105) rfl h
  refine r_callV1 (As := [.int x1, .int x2, .int x3]) (rest := []) (r := 0) (i := 0) C (vX0_addLooker (by decide) hc103) hR hS (lv0 (by decide) (by decide)) (by decide) ml_X8_192 mw_X0_addLooker rfl ⟨Nat.le_of_ble_eq_true rfl, Nat.le_of_ble_eq_true rfl, Nat.le_of_ble_eq_true rfl, Nat.le_of_ble_eq_true rfl⟩ hl.1 rfl (Nat.le_of_ble_eq_true rfl) dX8_looker_17 (fun H locs hR hS => ?_)
  refine lv_istore (lv' := [(4, .int x104), (0, .ref (a 8 0)), (1, .int x1), (2, .int x2), (3, .int x3)]) hx hb dX8_looker_20 hl (by decide) rfl (fun ls hl => ?_)
  refine lv_iload hx hb dX8_looker_22 (lv_at hl 0 rfl) ?_
  refine lv_iconst (v := (-1)) hx hb dX8_looker_24 (by decide) ?_
  refine lv_icmp_eq (tgt := 34) hx hb dX8_looker_25 (by decide) (fun c_106 => ?_) (fun c_106 => ?_)
  · rw [if_pos c_106] at h
    refine lv_iload hx hb dX8_looker_34 (lv_at hl 0 rfl) ?_
    cases h
    exact x_ret (e_iret C hr hR hS (Nat.le_of_ble_eq_true rfl) (Nat.le_of_ble_eq_true rfl) dX8_looker_36)
  · rw [if_neg c_106] at h
    refine lv_aload_n hx hb dX8_looker_28 rfl (lv_at hl 1 rfl) ?_
    refine lv_iload hx hb dX8_looker_29 (lv_at hl 0 rfl) ?_
    obtain ⟨u108, hc107, h⟩ := ob h
    refine r_callV0 (As := [.int x104]) (rest := []) (r := 8) (i := 0) C (vX8_forgetStates hc107) hR hS (lv0 (by decide) (by decide)) (by decide) ml_X8_196 mw_X8_forgetStates rfl ⟨Nat.le_of_ble_eq_true rfl, Nat.le_of_ble_eq_true rfl, Nat.le_of_ble_eq_true rfl, Nat.le_of_ble_eq_true rfl⟩ hl.1 rfl (Nat.le_of_ble_eq_true rfl) dX8_looker_31 (fun H locs hR hS => ?_)
    refine lv_iload hx hb dX8_looker_34 (lv_at hl 0 rfl) ?_
    cases h
    exact x_ret (e_iret C hr hR hS (Nat.le_of_ble_eq_true rfl) (Nat.le_of_ble_eq_true rfl) dX8_looker_36)
set_option maxHeartbeats 4000000 in
set_option maxRecDepth 100000 in
theorem vX8_requireLooker {l : Launch} (hfl : l.stackTraces = false) {E : EV} {a : Nat → Nat → Nat} {u0 : HS} {x1 : Int32} {out : Nat} (h : mX8_requireLooker u0 x1 = some out) : CtX l E yX8_requireLooker cX8_requireLooker 2 none 6 90 1 6 a u0 [.ref (a 8 0), .int x1] out none u0 := by
  refine CtX.start (by decide) (Nat.le_of_ble_eq_true rfl) ?_
  intro p e s m args below meth c ls hT0 C hr hR hS hl
  have C : Cx E p s m args meth c cX8_requireLooker 2 RX8 := C
  have hl : lv_has ls 2 [(0, .ref (a 8 0)), (1, .int x1)] := hl
  have hx := C.1
  have hb := C.2.1
  unfold mX8_requireLooker at h
  refine lv_iload_n hx hb dX8_requireLooker_0 rfl (lv_at hl 1 rfl) ?_
  refine jp_cut h (fun j101 hj101 h => ?_)
  have Kj101 : ∀  (H : Heap) (locs : List Loc) (ls : Array Slot), j101 = some out → Rel E a u0 H → va_S (AE E) s.heap H locs → lv_has ls 2 [] → W p l e { frames := 6, cells := 1, slots := 6, locals := 90 } s m args below meth c H locs 0 0 (vx_MQ below (QX E a out none u0) (XW E a out u0) args s 1 6 (AE E)) (F0 m 15 ls []) := by
    intro  H locs ls h hR hS hl
    replace h := jx0 hj101 h
    cases h
    exact r_throw1 hfl C hT0 hR hS hl.1 dX8_requireLooker_15 dX8_requireLooker_18 dX8_requireLooker_19 dX8_requireLooker_22 (Nat.le_of_ble_eq_true rfl) (Nat.le_of_ble_eq_true rfl) (Nat.le_of_ble_eq_true rfl) (Nat.le_of_ble_eq_true rfl) (Nat.le_of_ble_eq_true rfl) (Nat.le_of_ble_eq_true rfl)
  refine lv_if_lt (tgt := 15) hx hb dX8_requireLooker_1 (by decide) (fun c_102 => ?_) (fun c_102 => ?_)
  · rw [if_pos c_102] at h
    exact Kj101  _ _ _ h hR hS (lv_sub hl [] rfl)
  · rw [if_neg c_102] at h
    refine lv_iload_n hx hb dX8_requireLooker_4 rfl (lv_at hl 1 rfl) ?_
    refine lv_aload_n hx hb dX8_requireLooker_5 rfl (lv_at hl 0 rfl) ?_
    refine r_get C hR 8 0 8 (v := .ref (a 0 0)) (lv0 (by decide) (by decide)) (by decide) (by decide) rfl fl_X8_56 dX8_requireLooker_6 ?_
    refine r_get C hR 0 0 0 (v := .int (gI u0 0 0 0)) (lv0 (by decide) (by decide)) (by decide) (by decide) rfl fl_X8_268 dX8_requireLooker_9 ?_
    refine lv_icmp_lt (tgt := 23) hx hb dX8_requireLooker_12 (by decide) (fun c_103 => ?_) (fun c_103 => ?_)
    · rw [if_pos c_103] at h
      cases h
      exact x_ret (e_vret C hr hR hS (Nat.le_of_ble_eq_true rfl) (Nat.le_of_ble_eq_true rfl) dX8_requireLooker_23)
    · rw [if_neg c_103] at h
      exact Kj101  _ _ _ h hR hS (lv_sub hl [] rfl)
set_option maxHeartbeats 4000000 in
set_option maxRecDepth 100000 in
theorem vX8_eyes {l : Launch} (hfl : l.stackTraces = false) {E : EV} {a : Nat → Nat → Nat} {u0 : HS} {x1 : Int32} {x2 : Int32} {x3 : Int32} {x4 : Int32} {out : (Nat × Int32 × HS)} (h : mX8_eyes u0 x1 x2 x3 x4 = some out) : CtX l E yX8_eyes cX8_eyes 5 (some .int) 7 111 2 12 a u0 [.ref (a 8 0), .int x1, .int x2, .int x3, .int x4] out.1 (some (.int out.2.1)) out.2.2 := by
  refine CtX.start (by decide) (Nat.le_of_ble_eq_true rfl) ?_
  intro p e s m args below meth c ls hT0 C hr hR hS hl
  have C : Cx E p s m args meth c cX8_eyes 5 RX8 := C
  have hl : lv_has ls 5 [(0, .ref (a 8 0)), (1, .int x1), (2, .int x2), (3, .int x3), (4, .int x4)] := hl
  have hx := C.1
  have hb := C.2.1
  unfold mX8_eyes at h
  refine lv_aload_n hx hb dX8_eyes_0 rfl (lv_at hl 0 rfl) ?_
  refine lv_iload_n hx hb dX8_eyes_1 rfl (lv_at hl 1 rfl) ?_
  obtain ⟨t101, hc101, h⟩ := ob h
  refine r_callXV (Qc := QX E a out.1 (some (.int out.2.1)) out.2.2) (mc0 := 2) (ms0 := 12) (As := [.int x1]) (rest := []) (r := 8) (i := 0) C hT0 (vX8_requireLooker hfl hc101) hR hS (lv0 (by decide) (by decide)) (by decide) ml_X8_199 mw_X8_requireLooker rfl ⟨Nat.le_of_ble_eq_true rfl, Nat.le_of_ble_eq_true rfl, Nat.le_of_ble_eq_true rfl, Nat.le_of_ble_eq_true rfl⟩ ⟨Nat.le_of_ble_eq_true rfl, Nat.le_of_ble_eq_true rfl⟩ hl.1 rfl (Nat.le_of_ble_eq_true rfl) dX8_eyes_2 (fun hk => ?_) (fun hk H locs hR hS => ?_)
  · rw [xq_ne hk] at h
    cases h
    exact fun _ q => q
  rw [xq_0 hk] at h
  refine lv_iload_n hx hb dX8_eyes_5 rfl (lv_at hl 2 rfl) ?_
  obtain ⟨x103, hc102, h⟩ := ob h
  refine r_callS1 (As := [.int x2]) (rest := []) C (vX8_isTenth hc102) hR hS ml_X8_149 ms_X8_isTenth rfl ⟨Nat.le_of_ble_eq_true rfl, Nat.le_of_ble_eq_true rfl, Nat.le_of_ble_eq_true rfl, Nat.le_of_ble_eq_true rfl⟩ hl.1 rfl (Nat.le_of_ble_eq_true rfl) dX8_eyes_6 (fun H locs hR hS => ?_)
  obtain ⟨x104, hz, h⟩ := ob h
  have Kj105 : ∀ (H : Heap) (locs : List Loc) (ls : Array Slot), Rel E a u0 H → va_S (AE E) s.heap H locs → lv_has ls 5 [(0, .ref (a 8 0)), (1, .int x1), (2, .int x2), (3, .int x3), (4, .int x4)] → W p l e { frames := 7, cells := 2, slots := 12, locals := 111 } s m args below meth c H locs 1 6 (vx_MQ below (QX E a out.1 (some (.int out.2.1)) out.2.2) (XW E a out.1 out.2.2) args s 2 12 (AE E)) (F0 m 39 ls [.int x104]) := by
    intro H locs ls hR hS hl
    clear hz
    obtain ⟨t106, hc106, h⟩ := ob h
    refine r_callXS (Qc := QX E a out.1 (some (.int out.2.1)) out.2.2) (mc0 := 2) (ms0 := 12) (As := [.int x104]) (rest := []) C hT0 (vX8_require hfl hc106) hR hS ml_X8_105 ms_X8_require rfl ⟨Nat.le_of_ble_eq_true rfl, Nat.le_of_ble_eq_true rfl, Nat.le_of_ble_eq_true rfl, Nat.le_of_ble_eq_true rfl⟩ ⟨Nat.le_of_ble_eq_true rfl, Nat.le_of_ble_eq_true rfl⟩ hl.1 rfl (Nat.le_of_ble_eq_true rfl) dX8_eyes_39 (fun hk => ?_) (fun hk H locs hR hS => ?_)
    · rw [xq_ne hk] at h
      cases h
      exact fun _ q => q
    rw [xq_0 hk] at h
    refine lv_aload_n hx hb dX8_eyes_42 rfl (lv_at hl 0 rfl) ?_
    refine lv_iload_n hx hb dX8_eyes_43 rfl (lv_at hl 1 rfl) ?_
    obtain ⟨u108, hc107, h⟩ := ob h
    refine r_callV0 (As := [.int x1]) (rest := []) (r := 8) (i := 0) C (vX8_forgetStates hc107) hR hS (lv0 (by decide) (by decide)) (by decide) ml_X8_196 mw_X8_forgetStates rfl ⟨Nat.le_of_ble_eq_true rfl, Nat.le_of_ble_eq_true rfl, Nat.le_of_ble_eq_true rfl, Nat.le_of_ble_eq_true rfl⟩ hl.1 rfl (Nat.le_of_ble_eq_true rfl) dX8_eyes_44 (fun H locs hR hS => ?_)
    refine lv_aload_n hx hb dX8_eyes_47 rfl (lv_at hl 0 rfl) ?_
    refine r_get C hR 8 0 8 (v := .ref (a 0 0)) (lv0 (by decide) (by decide)) (by decide) (by decide) rfl fl_X8_56 dX8_eyes_48 ?_
    refine lv_iload_n hx hb dX8_eyes_51 rfl (lv_at hl 1 rfl) ?_
    refine lv_iload_n hx hb dX8_eyes_52 rfl (lv_at hl 2 rfl) ?_
    refine lv_iload_n hx hb dX8_eyes_53 rfl (lv_at hl 3 rfl) ?_
    refine lv_bipush (v := 100) hx hb dX8_eyes_54 (by decide) ?_
    refine lv_imul hx hb dX8_eyes_56 ?_
    refine lv_iload hx hb dX8_eyes_57 (lv_at hl 4 rfl) ?_
    refine lv_iadd hx hb dX8_eyes_59 ?_
    obtain ⟨⟨x110, u111⟩, hc109, h⟩ := ob h
    replace h := bd_x (x := x110) rfl h
    replace h := bd_x (x := u111) rfl h
    refine r_callV1 (As := [.int x1, .int x2, .int ((x3 * 100) + x4)]) (rest := []) (r := 0) (i := 0) C (vX0_addEyes (by decide) hc109) hR hS (lv0 (by decide) (by decide)) (by decide) ml_X8_202 mw_X0_addEyes rfl ⟨Nat.le_of_ble_eq_true rfl, Nat.le_of_ble_eq_true rfl, Nat.le_of_ble_eq_true rfl, Nat.le_of_ble_eq_true rfl⟩ hl.1 rfl (Nat.le_of_ble_eq_true rfl) dX8_eyes_60 (fun H locs hR hS => ?_)
    cases h
    exact x_ret (e_iret C hr hR hS (Nat.le_of_ble_eq_true rfl) (Nat.le_of_ble_eq_true rfl) dX8_eyes_63)
  clear h
  have h := hz
  clear hz
  refine jp_cut h (fun j112 hj112 h => ?_)
  have Kj112 : ∀  (H : Heap) (locs : List Loc) (ls : Array Slot), j112 = some x104 → Rel E a u0 H → va_S (AE E) s.heap H locs → lv_has ls 5 [(0, .ref (a 8 0)), (1, .int x1), (2, .int x2), (3, .int x3), (4, .int x4)] → W p l e { frames := 7, cells := 2, slots := 12, locals := 111 } s m args below meth c H locs 1 6 (vx_MQ below (QX E a out.1 (some (.int out.2.1)) out.2.2) (XW E a out.1 out.2.2) args s 2 12 (AE E)) (F0 m 38 ls []) := by
    intro  H locs ls h hR hS hl
    replace h := jx0 hj112 h
    refine lv_iconst (v := 0) hx hb dX8_eyes_38 (by decide) ?_
    cases h
    exact Kj105 _ _ _ hR hS (lv_sub hl [0, 1, 2, 3, 4] rfl)
  refine lv_if_eq (tgt := 38) hx hb dX8_eyes_9 (by decide) (fun c_113 => ?_) (fun c_113 => ?_)
  · rw [if_pos c_113] at h
    exact Kj112  _ _ _ h hR hS (lv_sub hl [0, 1, 2, 3, 4] rfl)
  · rw [if_neg c_113] at h
    refine lv_iload_n hx hb dX8_eyes_12 rfl (lv_at hl 3 rfl) ?_
    refine lv_if_lt (tgt := 38) hx hb dX8_eyes_13 (by decide) (fun c_114 => ?_) (fun c_114 => ?_)
    · rw [if_pos c_114] at h
      exact Kj112  _ _ _ h hR hS (lv_sub hl [0, 1, 2, 3, 4] rfl)
    · rw [if_neg c_114] at h
      refine lv_iload_n hx hb dX8_eyes_16 rfl (lv_at hl 3 rfl) ?_
      refine lv_bipush (v := 40) hx hb dX8_eyes_17 (by decide) ?_
      refine lv_icmp_ge (tgt := 38) hx hb dX8_eyes_19 (by decide) (fun c_115 => ?_) (fun c_115 => ?_)
      · rw [if_pos c_115] at h
        exact Kj112  _ _ _ h hR hS (lv_sub hl [0, 1, 2, 3, 4] rfl)
      · rw [if_neg c_115] at h
        refine lv_iload hx hb dX8_eyes_22 (lv_at hl 4 rfl) ?_
        refine lv_if_lt (tgt := 38) hx hb dX8_eyes_24 (by decide) (fun c_116 => ?_) (fun c_116 => ?_)
        · rw [if_pos c_116] at h
          exact Kj112  _ _ _ h hR hS (lv_sub hl [0, 1, 2, 3, 4] rfl)
        · rw [if_neg c_116] at h
          refine lv_iload hx hb dX8_eyes_27 (lv_at hl 4 rfl) ?_
          refine lv_bipush (v := 30) hx hb dX8_eyes_29 (by decide) ?_
          refine lv_icmp_ge (tgt := 38) hx hb dX8_eyes_31 (by decide) (fun c_117 => ?_) (fun c_117 => ?_)
          · rw [if_pos c_117] at h
            exact Kj112  _ _ _ h hR hS (lv_sub hl [0, 1, 2, 3, 4] rfl)
          · rw [if_neg c_117] at h
            refine lv_iconst (v := 1) hx hb dX8_eyes_34 (by decide) ?_
            refine lv_goto (tgt := 39) hx hb dX8_eyes_35 (by decide) ?_
            cases h
            exact Kj105 _ _ _ hR hS (lv_sub hl [0, 1, 2, 3, 4] rfl)
set_option maxHeartbeats 4000000 in
set_option maxRecDepth 100000 in
theorem vX8_blink {l : Launch} (hfl : l.stackTraces = false) {E : EV} {a : Nat → Nat → Nat} {u0 : HS} {x1 : Int32} {x2 : Int32} {x3 : Int32} {out : (Nat × Int32 × HS)} (h : mX8_blink u0 x1 x2 x3 = some out) : CtX l E yX8_blink cX8_blink 4 (some .int) 7 111 2 12 a u0 [.ref (a 8 0), .int x1, .int x2, .int x3] out.1 (some (.int out.2.1)) out.2.2 := by
  refine CtX.start (by decide) (Nat.le_of_ble_eq_true rfl) ?_
  intro p e s m args below meth c ls hT0 C hr hR hS hl
  have C : Cx E p s m args meth c cX8_blink 4 RX8 := C
  have hl : lv_has ls 4 [(0, .ref (a 8 0)), (1, .int x1), (2, .int x2), (3, .int x3)] := hl
  have hx := C.1
  have hb := C.2.1
  unfold mX8_blink at h
  refine lv_aload_n hx hb dX8_blink_0 rfl (lv_at hl 0 rfl) ?_
  refine lv_iload_n hx hb dX8_blink_1 rfl (lv_at hl 1 rfl) ?_
  obtain ⟨t101, hc101, h⟩ := ob h
  refine r_callXV (Qc := QX E a out.1 (some (.int out.2.1)) out.2.2) (mc0 := 2) (ms0 := 12) (As := [.int x1]) (rest := []) (r := 8) (i := 0) C hT0 (vX8_requireLooker hfl hc101) hR hS (lv0 (by decide) (by decide)) (by decide) ml_X8_199 mw_X8_requireLooker rfl ⟨Nat.le_of_ble_eq_true rfl, Nat.le_of_ble_eq_true rfl, Nat.le_of_ble_eq_true rfl, Nat.le_of_ble_eq_true rfl⟩ ⟨Nat.le_of_ble_eq_true rfl, Nat.le_of_ble_eq_true rfl⟩ hl.1 rfl (Nat.le_of_ble_eq_true rfl) dX8_blink_2 (fun hk => ?_) (fun hk H locs hR hS => ?_)
  · rw [xq_ne hk] at h
    cases h
    exact fun _ q => q
  rw [xq_0 hk] at h
  refine lv_iload_n hx hb dX8_blink_5 rfl (lv_at hl 2 rfl) ?_
  obtain ⟨x103, hc102, h⟩ := ob h
  refine r_callS1 (As := [.int x2]) (rest := []) C (vX8_isTenth hc102) hR hS ml_X8_149 ms_X8_isTenth rfl ⟨Nat.le_of_ble_eq_true rfl, Nat.le_of_ble_eq_true rfl, Nat.le_of_ble_eq_true rfl, Nat.le_of_ble_eq_true rfl⟩ hl.1 rfl (Nat.le_of_ble_eq_true rfl) dX8_blink_6 (fun H locs hR hS => ?_)
  obtain ⟨x104, hz, h⟩ := ob h
  have Kj105 : ∀ (H : Heap) (locs : List Loc) (ls : Array Slot), Rel E a u0 H → va_S (AE E) s.heap H locs → lv_has ls 4 [(0, .ref (a 8 0)), (1, .int x1), (2, .int x2), (3, .int x3)] → W p l e { frames := 7, cells := 2, slots := 12, locals := 111 } s m args below meth c H locs 1 6 (vx_MQ below (QX E a out.1 (some (.int out.2.1)) out.2.2) (XW E a out.1 out.2.2) args s 2 12 (AE E)) (F0 m 29 ls [.int x104]) := by
    intro H locs ls hR hS hl
    clear hz
    obtain ⟨t106, hc106, h⟩ := ob h
    refine r_callXS (Qc := QX E a out.1 (some (.int out.2.1)) out.2.2) (mc0 := 2) (ms0 := 12) (As := [.int x104]) (rest := []) C hT0 (vX8_require hfl hc106) hR hS ml_X8_105 ms_X8_require rfl ⟨Nat.le_of_ble_eq_true rfl, Nat.le_of_ble_eq_true rfl, Nat.le_of_ble_eq_true rfl, Nat.le_of_ble_eq_true rfl⟩ ⟨Nat.le_of_ble_eq_true rfl, Nat.le_of_ble_eq_true rfl⟩ hl.1 rfl (Nat.le_of_ble_eq_true rfl) dX8_blink_29 (fun hk => ?_) (fun hk H locs hR hS => ?_)
    · rw [xq_ne hk] at h
      cases h
      exact fun _ q => q
    rw [xq_0 hk] at h
    refine lv_aload_n hx hb dX8_blink_32 rfl (lv_at hl 0 rfl) ?_
    refine lv_iload_n hx hb dX8_blink_33 rfl (lv_at hl 1 rfl) ?_
    obtain ⟨u108, hc107, h⟩ := ob h
    refine r_callV0 (As := [.int x1]) (rest := []) (r := 8) (i := 0) C (vX8_forgetStates hc107) hR hS (lv0 (by decide) (by decide)) (by decide) ml_X8_196 mw_X8_forgetStates rfl ⟨Nat.le_of_ble_eq_true rfl, Nat.le_of_ble_eq_true rfl, Nat.le_of_ble_eq_true rfl, Nat.le_of_ble_eq_true rfl⟩ hl.1 rfl (Nat.le_of_ble_eq_true rfl) dX8_blink_34 (fun H locs hR hS => ?_)
    refine lv_aload_n hx hb dX8_blink_37 rfl (lv_at hl 0 rfl) ?_
    refine r_get C hR 8 0 8 (v := .ref (a 0 0)) (lv0 (by decide) (by decide)) (by decide) (by decide) rfl fl_X8_56 dX8_blink_38 ?_
    refine lv_iload_n hx hb dX8_blink_41 rfl (lv_at hl 1 rfl) ?_
    refine lv_iload_n hx hb dX8_blink_42 rfl (lv_at hl 2 rfl) ?_
    refine lv_iload_n hx hb dX8_blink_43 rfl (lv_at hl 3 rfl) ?_
    obtain ⟨⟨x110, u111⟩, hc109, h⟩ := ob h
    replace h := bd_x (x := x110) rfl h
    replace h := bd_x (x := u111) rfl h
    refine r_callV1 (As := [.int x1, .int x2, .int x3]) (rest := []) (r := 0) (i := 0) C (vX0_addBlink (by decide) hc109) hR hS (lv0 (by decide) (by decide)) (by decide) ml_X8_206 mw_X0_addBlink rfl ⟨Nat.le_of_ble_eq_true rfl, Nat.le_of_ble_eq_true rfl, Nat.le_of_ble_eq_true rfl, Nat.le_of_ble_eq_true rfl⟩ hl.1 rfl (Nat.le_of_ble_eq_true rfl) dX8_blink_44 (fun H locs hR hS => ?_)
    cases h
    exact x_ret (e_iret C hr hR hS (Nat.le_of_ble_eq_true rfl) (Nat.le_of_ble_eq_true rfl) dX8_blink_47)
  clear h
  have h := hz
  clear hz
  refine jp_cut h (fun j112 hj112 h => ?_)
  have Kj112 : ∀  (H : Heap) (locs : List Loc) (ls : Array Slot), j112 = some x104 → Rel E a u0 H → va_S (AE E) s.heap H locs → lv_has ls 4 [(0, .ref (a 8 0)), (1, .int x1), (2, .int x2), (3, .int x3)] → W p l e { frames := 7, cells := 2, slots := 12, locals := 111 } s m args below meth c H locs 1 6 (vx_MQ below (QX E a out.1 (some (.int out.2.1)) out.2.2) (XW E a out.1 out.2.2) args s 2 12 (AE E)) (F0 m 28 ls []) := by
    intro  H locs ls h hR hS hl
    replace h := jx0 hj112 h
    refine lv_iconst (v := 0) hx hb dX8_blink_28 (by decide) ?_
    cases h
    exact Kj105 _ _ _ hR hS (lv_sub hl [0, 1, 2, 3] rfl)
  refine lv_if_eq (tgt := 28) hx hb dX8_blink_9 (by decide) (fun c_113 => ?_) (fun c_113 => ?_)
  · rw [if_pos c_113] at h
    exact Kj112  _ _ _ h hR hS (lv_sub hl [0, 1, 2, 3] rfl)
  · rw [if_neg c_113] at h
    refine lv_iload_n hx hb dX8_blink_12 rfl (lv_at hl 3 rfl) ?_
    obtain ⟨x115, hc114, h⟩ := ob h
    refine r_callS1 (As := [.int x3]) (rest := []) C (vX8_isTenth hc114) hR hS ml_X8_149 ms_X8_isTenth rfl ⟨Nat.le_of_ble_eq_true rfl, Nat.le_of_ble_eq_true rfl, Nat.le_of_ble_eq_true rfl, Nat.le_of_ble_eq_true rfl⟩ hl.1 rfl (Nat.le_of_ble_eq_true rfl) dX8_blink_13 (fun H locs hR hS => ?_)
    refine lv_if_eq (tgt := 28) hx hb dX8_blink_16 (by decide) (fun c_116 => ?_) (fun c_116 => ?_)
    · rw [if_pos c_116] at h
      exact Kj112  _ _ _ h hR hS (lv_sub hl [0, 1, 2, 3] rfl)
    · rw [if_neg c_116] at h
      refine lv_iload_n hx hb dX8_blink_19 rfl (lv_at hl 2 rfl) ?_
      refine lv_iload_n hx hb dX8_blink_20 rfl (lv_at hl 3 rfl) ?_
      refine lv_icmp_gt (tgt := 28) hx hb dX8_blink_21 (by decide) (fun c_117 => ?_) (fun c_117 => ?_)
      · rw [if_pos c_117] at h
        exact Kj112  _ _ _ h hR hS (lv_sub hl [0, 1, 2, 3] rfl)
      · rw [if_neg c_117] at h
        refine lv_iconst (v := 1) hx hb dX8_blink_24 (by decide) ?_
        refine lv_goto (tgt := 29) hx hb dX8_blink_25 (by decide) ?_
        cases h
        exact Kj105 _ _ _ hR hS (lv_sub hl [0, 1, 2, 3] rfl)
set_option maxHeartbeats 4000000 in
set_option maxRecDepth 100000 in
theorem vX8_eye {l : Launch} (hfl : l.stackTraces = false) {E : EV} {a : Nat → Nat → Nat} {u0 : HS} {x1 : Int32} {x2 : Int32} {out : (Nat × Int32 × HS)} (h : mX8_eye u0 x1 x2 = some out) : CtX l E yX8_eye cX8_eye 3 (some .int) 7 114 2 12 a u0 [.ref (a 8 0), .int x1, .int x2] out.1 (some (.int out.2.1)) out.2.2 := by
  refine CtX.start (by decide) (Nat.le_of_ble_eq_true rfl) ?_
  intro p e s m args below meth c ls hT0 C hr hR hS hl
  have C : Cx E p s m args meth c cX8_eye 3 RX8 := C
  have hl : lv_has ls 3 [(0, .ref (a 8 0)), (1, .int x1), (2, .int x2)] := hl
  have hx := C.1
  have hb := C.2.1
  unfold mX8_eye at h
  refine lv_aload_n hx hb dX8_eye_0 rfl (lv_at hl 0 rfl) ?_
  refine lv_iload_n hx hb dX8_eye_1 rfl (lv_at hl 1 rfl) ?_
  obtain ⟨t101, hc101, h⟩ := ob h
  refine r_callXV (Qc := QX E a out.1 (some (.int out.2.1)) out.2.2) (mc0 := 2) (ms0 := 12) (As := [.int x1]) (rest := []) (r := 8) (i := 0) C hT0 (vX8_requireLooker hfl hc101) hR hS (lv0 (by decide) (by decide)) (by decide) ml_X8_199 mw_X8_requireLooker rfl ⟨Nat.le_of_ble_eq_true rfl, Nat.le_of_ble_eq_true rfl, Nat.le_of_ble_eq_true rfl, Nat.le_of_ble_eq_true rfl⟩ ⟨Nat.le_of_ble_eq_true rfl, Nat.le_of_ble_eq_true rfl⟩ hl.1 rfl (Nat.le_of_ble_eq_true rfl) dX8_eye_2 (fun hk => ?_) (fun hk H locs hR hS => ?_)
  · rw [xq_ne hk] at h
    cases h
    exact fun _ q => q
  rw [xq_0 hk] at h
  refine lv_iload_n hx hb dX8_eye_5 rfl (lv_at hl 2 rfl) ?_
  obtain ⟨x103, hc102, h⟩ := ob h
  refine r_callS1 (As := [.int x2]) (rest := []) C (vX8_isTenth hc102) hR hS ml_X8_149 ms_X8_isTenth rfl ⟨Nat.le_of_ble_eq_true rfl, Nat.le_of_ble_eq_true rfl, Nat.le_of_ble_eq_true rfl, Nat.le_of_ble_eq_true rfl⟩ hl.1 rfl (Nat.le_of_ble_eq_true rfl) dX8_eye_6 (fun H locs hR hS => ?_)
  obtain ⟨t104, hc104, h⟩ := ob h
  refine r_callXS (Qc := QX E a out.1 (some (.int out.2.1)) out.2.2) (mc0 := 2) (ms0 := 12) (As := [.int x103]) (rest := []) C hT0 (vX8_require hfl hc104) hR hS ml_X8_105 ms_X8_require rfl ⟨Nat.le_of_ble_eq_true rfl, Nat.le_of_ble_eq_true rfl, Nat.le_of_ble_eq_true rfl, Nat.le_of_ble_eq_true rfl⟩ ⟨Nat.le_of_ble_eq_true rfl, Nat.le_of_ble_eq_true rfl⟩ hl.1 rfl (Nat.le_of_ble_eq_true rfl) dX8_eye_9 (fun hk => ?_) (fun hk H locs hR hS => ?_)
  · rw [xq_ne hk] at h
    cases h
    exact fun _ q => q
  rw [xq_0 hk] at h
  refine lv_aload_n hx hb dX8_eye_12 rfl (lv_at hl 0 rfl) ?_
  refine lv_iload_n hx hb dX8_eye_13 rfl (lv_at hl 1 rfl) ?_
  refine lv_iload_n hx hb dX8_eye_14 rfl (lv_at hl 2 rfl) ?_
  obtain ⟨u106, hc105, h⟩ := ob h
  refine r_callV0 (As := [.int x1, .int x2]) (rest := []) (r := 8) (i := 0) C (vX8_lookAs hc105) hR hS (lv0 (by decide) (by decide)) (by decide) ml_X8_209 mw_X8_lookAs rfl ⟨Nat.le_of_ble_eq_true rfl, Nat.le_of_ble_eq_true rfl, Nat.le_of_ble_eq_true rfl, Nat.le_of_ble_eq_true rfl⟩ hl.1 rfl (Nat.le_of_ble_eq_true rfl) dX8_eye_15 (fun H locs hR hS => ?_)
  refine lv_aload_n hx hb dX8_eye_18 rfl (lv_at hl 0 rfl) ?_
  refine r_get C hR 8 0 11 (v := .ref (a 7 0)) (lv0 (by decide) (by decide)) (by decide) (by decide) rfl fl_X8_70 dX8_eye_19 ?_
  refine r_get C hR 7 0 3 (v := .ref (a 46 0)) (lv0 (by decide) (by decide)) (by decide) (by decide) rfl fl_X8_213 dX8_eye_22 ?_
  refine lv_iload_n hx hb dX8_eye_25 rfl (lv_at hl 2 rfl) ?_
  obtain ⟨k107, hk107, h⟩ := ob h
  refine r_ald C hR 46 0 (lv0 (by decide) (by decide)) (by decide) rfl (fun _ => rfl) rfl hk107 dX8_eye_26 ?_
  cases h
  exact x_ret (e_iret C hr hR hS (Nat.le_of_ble_eq_true rfl) (Nat.le_of_ble_eq_true rfl) dX8_eye_27)
set_option maxHeartbeats 4000000 in
set_option maxRecDepth 100000 in
theorem vX8_on {l : Launch} (hfl : l.stackTraces = false) {E : EV} {a : Nat → Nat → Nat} {u0 : HS} {x1 : Int32} {x2 : Int32} {out : (Nat × Int32 × HS)} (h : mX8_on u0 x1 x2 = some out) : CtX l E yX8_on cX8_on 3 (some .int) 7 114 2 12 a u0 [.ref (a 8 0), .int x1, .int x2] out.1 (some (.int out.2.1)) out.2.2 := by
  refine CtX.start (by decide) (Nat.le_of_ble_eq_true rfl) ?_
  intro p e s m args below meth c ls hT0 C hr hR hS hl
  have C : Cx E p s m args meth c cX8_on 3 RX8 := C
  have hl : lv_has ls 3 [(0, .ref (a 8 0)), (1, .int x1), (2, .int x2)] := hl
  have hx := C.1
  have hb := C.2.1
  unfold mX8_on at h
  refine lv_aload_n hx hb dX8_on_0 rfl (lv_at hl 0 rfl) ?_
  refine lv_iload_n hx hb dX8_on_1 rfl (lv_at hl 1 rfl) ?_
  obtain ⟨t101, hc101, h⟩ := ob h
  refine r_callXV (Qc := QX E a out.1 (some (.int out.2.1)) out.2.2) (mc0 := 2) (ms0 := 12) (As := [.int x1]) (rest := []) (r := 8) (i := 0) C hT0 (vX8_requireLooker hfl hc101) hR hS (lv0 (by decide) (by decide)) (by decide) ml_X8_199 mw_X8_requireLooker rfl ⟨Nat.le_of_ble_eq_true rfl, Nat.le_of_ble_eq_true rfl, Nat.le_of_ble_eq_true rfl, Nat.le_of_ble_eq_true rfl⟩ ⟨Nat.le_of_ble_eq_true rfl, Nat.le_of_ble_eq_true rfl⟩ hl.1 rfl (Nat.le_of_ble_eq_true rfl) dX8_on_2 (fun hk => ?_) (fun hk H locs hR hS => ?_)
  · rw [xq_ne hk] at h
    cases h
    exact fun _ q => q
  rw [xq_0 hk] at h
  refine lv_iload_n hx hb dX8_on_5 rfl (lv_at hl 2 rfl) ?_
  obtain ⟨x102, hz, h⟩ := ob h
  have Kj103 : ∀ (H : Heap) (locs : List Loc) (ls : Array Slot), Rel E a u0 H → va_S (AE E) s.heap H locs → lv_has ls 3 [(0, .ref (a 8 0)), (1, .int x1), (2, .int x2)] → W p l e { frames := 7, cells := 2, slots := 12, locals := 114 } s m args below meth c H locs 1 6 (vx_MQ below (QX E a out.1 (some (.int out.2.1)) out.2.2) (XW E a out.1 out.2.2) args s 2 12 (AE E)) (F0 m 20 ls [.int x102]) := by
    intro H locs ls hR hS hl
    clear hz
    obtain ⟨t104, hc104, h⟩ := ob h
    refine r_callXS (Qc := QX E a out.1 (some (.int out.2.1)) out.2.2) (mc0 := 2) (ms0 := 12) (As := [.int x102]) (rest := []) C hT0 (vX8_require hfl hc104) hR hS ml_X8_105 ms_X8_require rfl ⟨Nat.le_of_ble_eq_true rfl, Nat.le_of_ble_eq_true rfl, Nat.le_of_ble_eq_true rfl, Nat.le_of_ble_eq_true rfl⟩ ⟨Nat.le_of_ble_eq_true rfl, Nat.le_of_ble_eq_true rfl⟩ hl.1 rfl (Nat.le_of_ble_eq_true rfl) dX8_on_20 (fun hk => ?_) (fun hk H locs hR hS => ?_)
    · rw [xq_ne hk] at h
      cases h
      exact fun _ q => q
    rw [xq_0 hk] at h
    refine lv_aload_n hx hb dX8_on_23 rfl (lv_at hl 0 rfl) ?_
    refine lv_iload_n hx hb dX8_on_24 rfl (lv_at hl 1 rfl) ?_
    refine lv_aload_n hx hb dX8_on_25 rfl (lv_at hl 0 rfl) ?_
    refine lv_iload_n hx hb dX8_on_26 rfl (lv_at hl 1 rfl) ?_
    obtain ⟨k106, hc105, h⟩ := ob h
    have hLk106 : k106 < cntS 3 := vX8_sceneFor_lt hc105
    refine r_callV1 (As := [.int x1]) (rest := [.int x1, .ref (a 8 0)]) (r := 8) (i := 0) C (vX8_sceneFor hc105) hR hS (lv0 (by decide) (by decide)) (by decide) ml_X8_216 mw_X8_sceneFor rfl ⟨Nat.le_of_ble_eq_true rfl, Nat.le_of_ble_eq_true rfl, Nat.le_of_ble_eq_true rfl, Nat.le_of_ble_eq_true rfl⟩ hl.1 rfl (Nat.le_of_ble_eq_true rfl) dX8_on_27 (fun H locs hR hS => ?_)
    refine r_get C hR 3 k106 11 (v := .int (gI u0 3 k106 11)) (lv0 hLk106 (by decide)) (by decide) (by decide) rfl fl_X8_140 dX8_on_30 ?_
    obtain ⟨u108, hc107, h⟩ := ob h
    refine r_callV0 (As := [.int x1, .int (gI u0 3 k106 11)]) (rest := []) (r := 8) (i := 0) C (vX8_lookAs hc107) hR hS (lv0 (by decide) (by decide)) (by decide) ml_X8_209 mw_X8_lookAs rfl ⟨Nat.le_of_ble_eq_true rfl, Nat.le_of_ble_eq_true rfl, Nat.le_of_ble_eq_true rfl, Nat.le_of_ble_eq_true rfl⟩ hl.1 rfl (Nat.le_of_ble_eq_true rfl) dX8_on_33 (fun H locs hR hS => ?_)
    refine lv_aload_n hx hb dX8_on_36 rfl (lv_at hl 0 rfl) ?_
    refine r_get C hR 8 0 11 (v := .ref (a 7 0)) (lv0 (by decide) (by decide)) (by decide) (by decide) rfl fl_X8_70 dX8_on_37 ?_
    refine lv_iload_n hx hb dX8_on_40 rfl (lv_at hl 2 rfl) ?_
    obtain ⟨x110, hc109, h⟩ := ob h
    refine r_callV1 (As := [.int x2]) (rest := []) (r := 7) (i := 0) C (vX7_tenthsWithin hc109) hR hS (lv0 (by decide) (by decide)) (by decide) ml_X8_220 mw_X7_tenthsWithin rfl ⟨Nat.le_of_ble_eq_true rfl, Nat.le_of_ble_eq_true rfl, Nat.le_of_ble_eq_true rfl, Nat.le_of_ble_eq_true rfl⟩ hl.1 rfl (Nat.le_of_ble_eq_true rfl) dX8_on_41 (fun H locs hR hS => ?_)
    cases h
    exact x_ret (e_iret C hr hR hS (Nat.le_of_ble_eq_true rfl) (Nat.le_of_ble_eq_true rfl) dX8_on_44)
  clear h
  have h := hz
  clear hz
  refine jp_cut h (fun j111 hj111 h => ?_)
  have Kj111 : ∀  (H : Heap) (locs : List Loc) (ls : Array Slot), j111 = some x102 → Rel E a u0 H → va_S (AE E) s.heap H locs → lv_has ls 3 [(0, .ref (a 8 0)), (1, .int x1), (2, .int x2)] → W p l e { frames := 7, cells := 2, slots := 12, locals := 114 } s m args below meth c H locs 1 6 (vx_MQ below (QX E a out.1 (some (.int out.2.1)) out.2.2) (XW E a out.1 out.2.2) args s 2 12 (AE E)) (F0 m 19 ls []) := by
    intro  H locs ls h hR hS hl
    replace h := jx0 hj111 h
    refine lv_iconst (v := 0) hx hb dX8_on_19 (by decide) ?_
    cases h
    exact Kj103 _ _ _ hR hS (lv_sub hl [0, 1, 2] rfl)
  refine lv_if_lt (tgt := 19) hx hb dX8_on_6 (by decide) (fun c_112 => ?_) (fun c_112 => ?_)
  · rw [if_pos c_112] at h
    exact Kj111  _ _ _ h hR hS (lv_sub hl [0, 1, 2] rfl)
  · rw [if_neg c_112] at h
    refine lv_iload_n hx hb dX8_on_9 rfl (lv_at hl 2 rfl) ?_
    refine lv_bipush (v := 40) hx hb dX8_on_10 (by decide) ?_
    refine lv_icmp_gt (tgt := 19) hx hb dX8_on_12 (by decide) (fun c_113 => ?_) (fun c_113 => ?_)
    · rw [if_pos c_113] at h
      exact Kj111  _ _ _ h hR hS (lv_sub hl [0, 1, 2] rfl)
    · rw [if_neg c_113] at h
      refine lv_iconst (v := 1) hx hb dX8_on_15 (by decide) ?_
      refine lv_goto (tgt := 20) hx hb dX8_on_16 (by decide) ?_
      cases h
      exact Kj103 _ _ _ hR hS (lv_sub hl [0, 1, 2] rfl)
set_option maxHeartbeats 4000000 in
set_option maxRecDepth 100000 in
theorem vX8_name {l : Launch} (hfl : l.stackTraces = false) {E : EV} {a : Nat → Nat → Nat} {u0 : HS} {x1 : Int32} {x2 : Int32} {x3 : Int32} {x4 : Int32} {out : (Nat × Int32 × HS)} (h : mX8_name u0 x1 x2 x3 x4 = some out) : CtX l E yX8_name cX8_name 5 (some .int) 7 114 3 18 a u0 [.ref (a 8 0), .int x1, .int x2, .int x3, .int x4] out.1 (some (.int out.2.1)) out.2.2 := by
  refine CtX.start (by decide) (Nat.le_of_ble_eq_true rfl) ?_
  intro p e s m args below meth c ls hT0 C hr hR hS hl
  have C : Cx E p s m args meth c cX8_name 5 RX8 := C
  have hl : lv_has ls 5 [(0, .ref (a 8 0)), (1, .int x1), (2, .int x2), (3, .int x3), (4, .int x4)] := hl
  have hx := C.1
  have hb := C.2.1
  unfold mX8_name at h
  refine lv_aload_n hx hb dX8_name_0 rfl (lv_at hl 0 rfl) ?_
  refine lv_iload_n hx hb dX8_name_1 rfl (lv_at hl 1 rfl) ?_
  obtain ⟨t101, hc101, h⟩ := ob h
  refine r_callXV (Qc := QX E a out.1 (some (.int out.2.1)) out.2.2) (mc0 := 3) (ms0 := 18) (As := [.int x1]) (rest := []) (r := 8) (i := 0) C hT0 (vX8_requireLooker hfl hc101) hR hS (lv0 (by decide) (by decide)) (by decide) ml_X8_199 mw_X8_requireLooker rfl ⟨Nat.le_of_ble_eq_true rfl, Nat.le_of_ble_eq_true rfl, Nat.le_of_ble_eq_true rfl, Nat.le_of_ble_eq_true rfl⟩ ⟨Nat.le_of_ble_eq_true rfl, Nat.le_of_ble_eq_true rfl⟩ hl.1 rfl (Nat.le_of_ble_eq_true rfl) dX8_name_2 (fun hk => ?_) (fun hk H locs hR hS => ?_)
  · rw [xq_ne hk] at h
    cases h
    exact fun _ q => q
  rw [xq_0 hk] at h
  refine lv_iload_n hx hb dX8_name_5 rfl (lv_at hl 2 rfl) ?_
  obtain ⟨x102, hz, h⟩ := ob h
  have Kj103 : ∀ (H : Heap) (locs : List Loc) (ls : Array Slot), Rel E a u0 H → va_S (AE E) s.heap H locs → lv_has ls 5 [(0, .ref (a 8 0)), (1, .int x1), (2, .int x2), (3, .int x3), (4, .int x4)] → W p l e { frames := 7, cells := 3, slots := 18, locals := 114 } s m args below meth c H locs 1 6 (vx_MQ below (QX E a out.1 (some (.int out.2.1)) out.2.2) (XW E a out.1 out.2.2) args s 3 18 (AE E)) (F0 m 33 ls [.int x102]) := by
    intro H locs ls hR hS hl
    clear hz
    obtain ⟨t104, hc104, h⟩ := ob h
    refine r_callXS (Qc := QX E a out.1 (some (.int out.2.1)) out.2.2) (mc0 := 3) (ms0 := 18) (As := [.int x102]) (rest := []) C hT0 (vX8_require hfl hc104) hR hS ml_X8_105 ms_X8_require rfl ⟨Nat.le_of_ble_eq_true rfl, Nat.le_of_ble_eq_true rfl, Nat.le_of_ble_eq_true rfl, Nat.le_of_ble_eq_true rfl⟩ ⟨Nat.le_of_ble_eq_true rfl, Nat.le_of_ble_eq_true rfl⟩ hl.1 rfl (Nat.le_of_ble_eq_true rfl) dX8_name_33 (fun hk => ?_) (fun hk H locs hR hS => ?_)
    · rw [xq_ne hk] at h
      cases h
      exact fun _ q => q
    rw [xq_0 hk] at h
    refine lv_iload hx hb dX8_name_36 (lv_at hl 4 rfl) ?_
    obtain ⟨x105, hz, h⟩ := ob h
    have Kj106 : ∀ (H : Heap) (locs : List Loc) (ls : Array Slot), Rel E a u0 H → va_S (AE E) s.heap H locs → lv_has ls 5 [(0, .ref (a 8 0)), (1, .int x1), (2, .int x2), (3, .int x3), (4, .int x4)] → W p l e { frames := 7, cells := 3, slots := 18, locals := 114 } s m args below meth c H locs 2 12 (vx_MQ below (QX E a out.1 (some (.int out.2.1)) out.2.2) (XW E a out.1 out.2.2) args s 3 18 (AE E)) (F0 m 53 ls [.int x105]) := by
      intro H locs ls hR hS hl
      clear hz
      obtain ⟨t107, hc107, h⟩ := ob h
      refine r_callXS (Qc := QX E a out.1 (some (.int out.2.1)) out.2.2) (mc0 := 3) (ms0 := 18) (As := [.int x105]) (rest := []) C hT0 (vX8_require hfl hc107) hR hS ml_X8_105 ms_X8_require rfl ⟨Nat.le_of_ble_eq_true rfl, Nat.le_of_ble_eq_true rfl, Nat.le_of_ble_eq_true rfl, Nat.le_of_ble_eq_true rfl⟩ ⟨Nat.le_of_ble_eq_true rfl, Nat.le_of_ble_eq_true rfl⟩ hl.1 rfl (Nat.le_of_ble_eq_true rfl) dX8_name_53 (fun hk => ?_) (fun hk H locs hR hS => ?_)
      · rw [xq_ne hk] at h
        cases h
        exact fun _ q => q
      rw [xq_0 hk] at h
      refine lv_aload_n hx hb dX8_name_56 rfl (lv_at hl 0 rfl) ?_
      refine lv_iload_n hx hb dX8_name_57 rfl (lv_at hl 1 rfl) ?_
      refine lv_iload_n hx hb dX8_name_58 rfl (lv_at hl 3 rfl) ?_
      obtain ⟨u109, hc108, h⟩ := ob h
      refine r_callV0 (As := [.int x1, .int x3]) (rest := []) (r := 8) (i := 0) C (vX8_lookAs hc108) hR hS (lv0 (by decide) (by decide)) (by decide) ml_X8_209 mw_X8_lookAs rfl ⟨Nat.le_of_ble_eq_true rfl, Nat.le_of_ble_eq_true rfl, Nat.le_of_ble_eq_true rfl, Nat.le_of_ble_eq_true rfl⟩ hl.1 rfl (Nat.le_of_ble_eq_true rfl) dX8_name_59 (fun H locs hR hS => ?_)
      refine lv_aload_n hx hb dX8_name_62 rfl (lv_at hl 0 rfl) ?_
      refine r_get C hR 8 0 11 (v := .ref (a 7 0)) (lv0 (by decide) (by decide)) (by decide) (by decide) rfl fl_X8_70 dX8_name_63 ?_
      refine lv_iload_n hx hb dX8_name_66 rfl (lv_at hl 2 rfl) ?_
      refine lv_iload_n hx hb dX8_name_67 rfl (lv_at hl 3 rfl) ?_
      obtain ⟨u111, hc110, h⟩ := ob h
      refine r_callV0 (As := [.int x2, .int x3]) (rest := []) (r := 7) (i := 0) C (vX7_regard hc110) hR hS (lv0 (by decide) (by decide)) (by decide) ml_X8_223 mw_X7_regard rfl ⟨Nat.le_of_ble_eq_true rfl, Nat.le_of_ble_eq_true rfl, Nat.le_of_ble_eq_true rfl, Nat.le_of_ble_eq_true rfl⟩ hl.1 rfl (Nat.le_of_ble_eq_true rfl) dX8_name_68 (fun H locs hR hS => ?_)
      refine lv_aload_n hx hb dX8_name_71 rfl (lv_at hl 0 rfl) ?_
      refine r_get C hR 8 0 11 (v := .ref (a 7 0)) (lv0 (by decide) (by decide)) (by decide) (by decide) rfl fl_X8_70 dX8_name_72 ?_
      refine r_get C hR 7 0 5 (v := .ref (a 48 0)) (lv0 (by decide) (by decide)) (by decide) (by decide) rfl fl_X8_226 dX8_name_75 ?_
      refine lv_iload hx hb dX8_name_78 (lv_at hl 4 rfl) ?_
      obtain ⟨k112, hk112, h⟩ := ob h
      refine r_ald C hR 48 0 (lv0 (by decide) (by decide)) (by decide) rfl (fun _ => rfl) rfl hk112 dX8_name_80 ?_
      cases h
      exact x_ret (e_iret C hr hR hS (Nat.le_of_ble_eq_true rfl) (Nat.le_of_ble_eq_true rfl) dX8_name_81)
    clear h
    have h := hz
    clear hz
    refine jp_cut h (fun j113 hj113 h => ?_)
    have Kj113 : ∀  (H : Heap) (locs : List Loc) (ls : Array Slot), j113 = some x105 → Rel E a u0 H → va_S (AE E) s.heap H locs → lv_has ls 5 [(0, .ref (a 8 0)), (1, .int x1), (2, .int x2), (3, .int x3), (4, .int x4)] → W p l e { frames := 7, cells := 3, slots := 18, locals := 114 } s m args below meth c H locs 2 12 (vx_MQ below (QX E a out.1 (some (.int out.2.1)) out.2.2) (XW E a out.1 out.2.2) args s 3 18 (AE E)) (F0 m 52 ls []) := by
      intro  H locs ls h hR hS hl
      replace h := jx0 hj113 h
      refine lv_iconst (v := 0) hx hb dX8_name_52 (by decide) ?_
      cases h
      exact Kj106 _ _ _ hR hS (lv_sub hl [0, 1, 2, 3, 4] rfl)
    refine lv_if_lt (tgt := 52) hx hb dX8_name_38 (by decide) (fun c_114 => ?_) (fun c_114 => ?_)
    · rw [if_pos c_114] at h
      exact Kj113  _ _ _ h hR hS (lv_sub hl [0, 1, 2, 3, 4] rfl)
    · rw [if_neg c_114] at h
      refine lv_iload hx hb dX8_name_41 (lv_at hl 4 rfl) ?_
      refine lv_bipush (v := 11) hx hb dX8_name_43 (by decide) ?_
      refine lv_icmp_ge (tgt := 52) hx hb dX8_name_45 (by decide) (fun c_115 => ?_) (fun c_115 => ?_)
      · rw [if_pos c_115] at h
        exact Kj113  _ _ _ h hR hS (lv_sub hl [0, 1, 2, 3, 4] rfl)
      · rw [if_neg c_115] at h
        refine lv_iconst (v := 1) hx hb dX8_name_48 (by decide) ?_
        refine lv_goto (tgt := 53) hx hb dX8_name_49 (by decide) ?_
        cases h
        exact Kj106 _ _ _ hR hS (lv_sub hl [0, 1, 2, 3, 4] rfl)
  clear h
  have h := hz
  clear hz
  refine jp_cut h (fun j116 hj116 h => ?_)
  have Kj116 : ∀  (H : Heap) (locs : List Loc) (ls : Array Slot), j116 = some x102 → Rel E a u0 H → va_S (AE E) s.heap H locs → lv_has ls 5 [(0, .ref (a 8 0)), (1, .int x1), (2, .int x2), (3, .int x3), (4, .int x4)] → W p l e { frames := 7, cells := 3, slots := 18, locals := 114 } s m args below meth c H locs 1 6 (vx_MQ below (QX E a out.1 (some (.int out.2.1)) out.2.2) (XW E a out.1 out.2.2) args s 3 18 (AE E)) (F0 m 32 ls []) := by
    intro  H locs ls h hR hS hl
    replace h := jx0 hj116 h
    refine lv_iconst (v := 0) hx hb dX8_name_32 (by decide) ?_
    cases h
    exact Kj103 _ _ _ hR hS (lv_sub hl [0, 1, 2, 3, 4] rfl)
  refine lv_if_lt (tgt := 32) hx hb dX8_name_6 (by decide) (fun c_117 => ?_) (fun c_117 => ?_)
  · rw [if_pos c_117] at h
    exact Kj116  _ _ _ h hR hS (lv_sub hl [0, 1, 2, 3, 4] rfl)
  · rw [if_neg c_117] at h
    refine lv_iload_n hx hb dX8_name_9 rfl (lv_at hl 2 rfl) ?_
    refine lv_aload_n hx hb dX8_name_10 rfl (lv_at hl 0 rfl) ?_
    refine lv_iload_n hx hb dX8_name_11 rfl (lv_at hl 1 rfl) ?_
    obtain ⟨k119, hc118, h⟩ := ob h
    have hLk119 : k119 < cntS 3 := vX8_sceneFor_lt hc118
    refine r_callV1 (As := [.int x1]) (rest := [.int x2]) (r := 8) (i := 0) C (vX8_sceneFor hc118) hR hS (lv0 (by decide) (by decide)) (by decide) ml_X8_216 mw_X8_sceneFor rfl ⟨Nat.le_of_ble_eq_true rfl, Nat.le_of_ble_eq_true rfl, Nat.le_of_ble_eq_true rfl, Nat.le_of_ble_eq_true rfl⟩ hl.1 rfl (Nat.le_of_ble_eq_true rfl) dX8_name_12 (fun H locs hR hS => ?_)
    refine r_get C hR 3 k119 0 (v := .int (gI u0 3 k119 0)) (lv0 hLk119 (by decide)) (by decide) (by decide) rfl fl_X8_131 dX8_name_15 ?_
    refine lv_icmp_ge (tgt := 32) hx hb dX8_name_18 (by decide) (fun c_120 => ?_) (fun c_120 => ?_)
    · rw [if_pos c_120] at h
      exact Kj116  _ _ _ h hR hS (lv_sub hl [0, 1, 2, 3, 4] rfl)
    · rw [if_neg c_120] at h
      refine lv_iload_n hx hb dX8_name_21 rfl (lv_at hl 3 rfl) ?_
      obtain ⟨x122, hc121, h⟩ := ob h
      refine r_callS1 (As := [.int x3]) (rest := []) C (vX8_isTenth hc121) hR hS ml_X8_149 ms_X8_isTenth rfl ⟨Nat.le_of_ble_eq_true rfl, Nat.le_of_ble_eq_true rfl, Nat.le_of_ble_eq_true rfl, Nat.le_of_ble_eq_true rfl⟩ hl.1 rfl (Nat.le_of_ble_eq_true rfl) dX8_name_22 (fun H locs hR hS => ?_)
      refine lv_if_eq (tgt := 32) hx hb dX8_name_25 (by decide) (fun c_123 => ?_) (fun c_123 => ?_)
      · rw [if_pos c_123] at h
        exact Kj116  _ _ _ h hR hS (lv_sub hl [0, 1, 2, 3, 4] rfl)
      · rw [if_neg c_123] at h
        refine lv_iconst (v := 1) hx hb dX8_name_28 (by decide) ?_
        refine lv_goto (tgt := 33) hx hb dX8_name_29 (by decide) ?_
        cases h
        exact Kj103 _ _ _ hR hS (lv_sub hl [0, 1, 2, 3, 4] rfl)
set_option maxHeartbeats 4000000 in
set_option maxRecDepth 100000 in
theorem vX8_requireLaw {l : Launch} (hfl : l.stackTraces = false) {E : EV} {a : Nat → Nat → Nat} {u0 : HS} {x1 : Int32} {out : Nat} (h : mX8_requireLaw u0 x1 = some out) : CtX l E yX8_requireLaw cX8_requireLaw 2 none 6 90 1 6 a u0 [.ref (a 8 0), .int x1] out none u0 := by
  refine CtX.start (by decide) (Nat.le_of_ble_eq_true rfl) ?_
  intro p e s m args below meth c ls hT0 C hr hR hS hl
  have C : Cx E p s m args meth c cX8_requireLaw 2 RX8 := C
  have hl : lv_has ls 2 [(0, .ref (a 8 0)), (1, .int x1)] := hl
  have hx := C.1
  have hb := C.2.1
  unfold mX8_requireLaw at h
  refine lv_iload_n hx hb dX8_requireLaw_0 rfl (lv_at hl 1 rfl) ?_
  refine jp_cut h (fun j101 hj101 h => ?_)
  have Kj101 : ∀  (H : Heap) (locs : List Loc) (ls : Array Slot), j101 = some out → Rel E a u0 H → va_S (AE E) s.heap H locs → lv_has ls 2 [] → W p l e { frames := 6, cells := 1, slots := 6, locals := 90 } s m args below meth c H locs 0 0 (vx_MQ below (QX E a out none u0) (XW E a out u0) args s 1 6 (AE E)) (F0 m 12 ls []) := by
    intro  H locs ls h hR hS hl
    replace h := jx0 hj101 h
    cases h
    exact r_throw3 hfl C hT0 hR hS hl.1 dX8_requireLaw_12 dX8_requireLaw_15 dX8_requireLaw_16 dX8_requireLaw_19 (Nat.le_of_ble_eq_true rfl) (Nat.le_of_ble_eq_true rfl) (Nat.le_of_ble_eq_true rfl) (Nat.le_of_ble_eq_true rfl) (Nat.le_of_ble_eq_true rfl) (Nat.le_of_ble_eq_true rfl)
  refine lv_if_lt (tgt := 12) hx hb dX8_requireLaw_1 (by decide) (fun c_102 => ?_) (fun c_102 => ?_)
  · rw [if_pos c_102] at h
    exact Kj101  _ _ _ h hR hS (lv_sub hl [] rfl)
  · rw [if_neg c_102] at h
    refine lv_iload_n hx hb dX8_requireLaw_4 rfl (lv_at hl 1 rfl) ?_
    refine lv_aload_n hx hb dX8_requireLaw_5 rfl (lv_at hl 0 rfl) ?_
    refine r_get C hR 8 0 6 (v := .int (gI u0 8 0 6)) (lv0 (by decide) (by decide)) (by decide) (by decide) rfl fl_X8_41 dX8_requireLaw_6 ?_
    refine lv_icmp_lt (tgt := 20) hx hb dX8_requireLaw_9 (by decide) (fun c_103 => ?_) (fun c_103 => ?_)
    · rw [if_pos c_103] at h
      cases h
      exact x_ret (e_vret C hr hR hS (Nat.le_of_ble_eq_true rfl) (Nat.le_of_ble_eq_true rfl) dX8_requireLaw_20)
    · rw [if_neg c_103] at h
      exact Kj101  _ _ _ h hR hS (lv_sub hl [] rfl)
set_option maxHeartbeats 4000000 in
set_option maxRecDepth 100000 in
theorem vX8_gets {l : Launch} (hfl : l.stackTraces = false) {E : EV} {a : Nat → Nat → Nat} {u0 : HS} {x1 : Int32} {x2 : Int32} {x3 : Int32} {x4 : Int32} {x5 : Int32} {out : (Nat × Int32 × HS)} (h : mX8_gets u0 x1 x2 x3 x4 x5 = some out) : CtX l E yX8_gets cX8_gets 6 (some .int) 7 119 3 18 a u0 [.ref (a 8 0), .int x1, .int x2, .int x3, .int x4, .int x5] out.1 (some (.int out.2.1)) out.2.2 := by
  refine CtX.start (by decide) (Nat.le_of_ble_eq_true rfl) ?_
  intro p e s m args below meth c ls hT0 C hr hR hS hl
  have C : Cx E p s m args meth c cX8_gets 6 RX8 := C
  have hl : lv_has ls 6 [(0, .ref (a 8 0)), (1, .int x1), (2, .int x2), (3, .int x3), (4, .int x4), (5, .int x5)] := hl
  have hx := C.1
  have hb := C.2.1
  unfold mX8_gets at h
  refine lv_aload_n hx hb dX8_gets_0 rfl (lv_at hl 0 rfl) ?_
  refine lv_iload_n hx hb dX8_gets_1 rfl (lv_at hl 1 rfl) ?_
  obtain ⟨t101, hc101, h⟩ := ob h
  refine r_callXV (Qc := QX E a out.1 (some (.int out.2.1)) out.2.2) (mc0 := 3) (ms0 := 18) (As := [.int x1]) (rest := []) (r := 8) (i := 0) C hT0 (vX8_requireLaw hfl hc101) hR hS (lv0 (by decide) (by decide)) (by decide) ml_X8_229 mw_X8_requireLaw rfl ⟨Nat.le_of_ble_eq_true rfl, Nat.le_of_ble_eq_true rfl, Nat.le_of_ble_eq_true rfl, Nat.le_of_ble_eq_true rfl⟩ ⟨Nat.le_of_ble_eq_true rfl, Nat.le_of_ble_eq_true rfl⟩ hl.1 rfl (Nat.le_of_ble_eq_true rfl) dX8_gets_2 (fun hk => ?_) (fun hk H locs hR hS => ?_)
  · rw [xq_ne hk] at h
    cases h
    exact fun _ q => q
  rw [xq_0 hk] at h
  refine lv_aload_n hx hb dX8_gets_5 rfl (lv_at hl 0 rfl) ?_
  refine lv_iload_n hx hb dX8_gets_6 rfl (lv_at hl 2 rfl) ?_
  obtain ⟨t102, hc102, h⟩ := ob h
  refine r_callXV (Qc := QX E a out.1 (some (.int out.2.1)) out.2.2) (mc0 := 3) (ms0 := 18) (As := [.int x2]) (rest := []) (r := 8) (i := 0) C hT0 (vX8_requireLooker hfl hc102) hR hS (lv0 (by decide) (by decide)) (by decide) ml_X8_199 mw_X8_requireLooker rfl ⟨Nat.le_of_ble_eq_true rfl, Nat.le_of_ble_eq_true rfl, Nat.le_of_ble_eq_true rfl, Nat.le_of_ble_eq_true rfl⟩ ⟨Nat.le_of_ble_eq_true rfl, Nat.le_of_ble_eq_true rfl⟩ hl.1 rfl (Nat.le_of_ble_eq_true rfl) dX8_gets_7 (fun hk => ?_) (fun hk H locs hR hS => ?_)
  · rw [xq_ne hk] at h
    cases h
    exact fun _ q => q
  rw [xq_0 hk] at h
  refine lv_iload_n hx hb dX8_gets_10 rfl (lv_at hl 3 rfl) ?_
  obtain ⟨x103, hz, h⟩ := ob h
  have Kj104 : ∀ (H : Heap) (locs : List Loc) (ls : Array Slot), Rel E a u0 H → va_S (AE E) s.heap H locs → lv_has ls 6 [(0, .ref (a 8 0)), (1, .int x1), (2, .int x2), (3, .int x3), (4, .int x4), (5, .int x5)] → W p l e { frames := 7, cells := 3, slots := 18, locals := 119 } s m args below meth c H locs 2 12 (vx_MQ below (QX E a out.1 (some (.int out.2.1)) out.2.2) (XW E a out.1 out.2.2) args s 3 18 (AE E)) (F0 m 50 ls [.int x103]) := by
    intro H locs ls hR hS hl
    clear hz
    obtain ⟨t105, hc105, h⟩ := ob h
    refine r_callXS (Qc := QX E a out.1 (some (.int out.2.1)) out.2.2) (mc0 := 3) (ms0 := 18) (As := [.int x103]) (rest := []) C hT0 (vX8_require hfl hc105) hR hS ml_X8_105 ms_X8_require rfl ⟨Nat.le_of_ble_eq_true rfl, Nat.le_of_ble_eq_true rfl, Nat.le_of_ble_eq_true rfl, Nat.le_of_ble_eq_true rfl⟩ ⟨Nat.le_of_ble_eq_true rfl, Nat.le_of_ble_eq_true rfl⟩ hl.1 rfl (Nat.le_of_ble_eq_true rfl) dX8_gets_50 (fun hk => ?_) (fun hk H locs hR hS => ?_)
    · rw [xq_ne hk] at h
      cases h
      exact fun _ q => q
    rw [xq_0 hk] at h
    refine lv_aload_n hx hb dX8_gets_53 rfl (lv_at hl 0 rfl) ?_
    refine lv_iload_n hx hb dX8_gets_54 rfl (lv_at hl 2 rfl) ?_
    refine lv_iload hx hb dX8_gets_55 (lv_at hl 4 rfl) ?_
    obtain ⟨u107, hc106, h⟩ := ob h
    refine r_callV0 (As := [.int x2, .int x4]) (rest := []) (r := 8) (i := 0) C (vX8_lookAs hc106) hR hS (lv0 (by decide) (by decide)) (by decide) ml_X8_209 mw_X8_lookAs rfl ⟨Nat.le_of_ble_eq_true rfl, Nat.le_of_ble_eq_true rfl, Nat.le_of_ble_eq_true rfl, Nat.le_of_ble_eq_true rfl⟩ hl.1 rfl (Nat.le_of_ble_eq_true rfl) dX8_gets_57 (fun H locs hR hS => ?_)
    refine lv_iload hx hb dX8_gets_60 (lv_at hl 5 rfl) ?_
    refine lv_iconst (v := 1) hx hb dX8_gets_62 (by decide) ?_
    refine lv_icmp_ne (tgt := 83) hx hb dX8_gets_63 (by decide) (fun c_108 => ?_) (fun c_108 => ?_)
    · rw [if_neg c_108] at h
      refine lv_aload_n hx hb dX8_gets_83 rfl (lv_at hl 0 rfl) ?_
      refine r_get C hR 8 0 11 (v := .ref (a 7 0)) (lv0 (by decide) (by decide)) (by decide) (by decide) rfl fl_X8_70 dX8_gets_84 ?_
      refine lv_iload_n hx hb dX8_gets_87 rfl (lv_at hl 3 rfl) ?_
      refine lv_iload hx hb dX8_gets_88 (lv_at hl 4 rfl) ?_
      obtain ⟨u110, hc109, h⟩ := ob h
      refine r_callV0 (As := [.int x3, .int x4]) (rest := []) (r := 7) (i := 0) C (vX7_regard hc109) hR hS (lv0 (by decide) (by decide)) (by decide) ml_X8_223 mw_X7_regard rfl ⟨Nat.le_of_ble_eq_true rfl, Nat.le_of_ble_eq_true rfl, Nat.le_of_ble_eq_true rfl, Nat.le_of_ble_eq_true rfl⟩ hl.1 rfl (Nat.le_of_ble_eq_true rfl) dX8_gets_90 (fun H locs hR hS => ?_)
      refine lv_iload hx hb dX8_gets_93 (lv_at hl 5 rfl) ?_
      refine lv_if_ne (tgt := 114) hx hb dX8_gets_95 (by decide) (fun c_111 => ?_) (fun c_111 => ?_)
      · rw [if_neg c_111] at h
        refine lv_aload_n hx hb dX8_gets_114 rfl (lv_at hl 0 rfl) ?_
        refine r_get C hR 8 0 12 (v := .ref (a 4 0)) (lv0 (by decide) (by decide)) (by decide) (by decide) rfl fl_X8_79 dX8_gets_115 ?_
        refine lv_aload_n hx hb dX8_gets_118 rfl (lv_at hl 0 rfl) ?_
        refine r_get C hR 8 0 5 (v := .ref (a 52 0)) (lv0 (by decide) (by decide)) (by decide) (by decide) rfl fl_X8_37 dX8_gets_119 ?_
        refine lv_iload_n hx hb dX8_gets_122 rfl (lv_at hl 1 rfl) ?_
        obtain ⟨k112, hk112, h⟩ := ob h
        have hLk112 : k112 < cntS 1 := by have q1 := (ck_in hk112).2.2; have q2 : cntS 1 = 5 := rfl; omega
        refine r_aald C hR 52 0 1 0 4 (lv0 (by decide) (by decide)) (by decide) rfl rfl rfl (fun _ => rfl) rfl hk112 dX8_gets_123 ?_
        obtain ⟨⟨x114, u115⟩, hc113, h⟩ := ob h
        replace h := bd_x (x := x114) rfl h
        replace h := bd_x (x := u115) rfl h
        refine r_callV1 (As := [.ref (a 1 k112)]) (rest := []) (r := 4) (i := 0) C (vX4_lineNow hLk112 hc113) hR hS (lv0 (by decide) (by decide)) (by decide) ml_X8_240 mw_X4_lineNow rfl ⟨Nat.le_of_ble_eq_true rfl, Nat.le_of_ble_eq_true rfl, Nat.le_of_ble_eq_true rfl, Nat.le_of_ble_eq_true rfl⟩ hl.1 rfl (Nat.le_of_ble_eq_true rfl) dX8_gets_124 (fun H locs hR hS => ?_)
        cases h
        exact x_ret (e_iret C hr hR hS (Nat.le_of_ble_eq_true rfl) (Nat.le_of_ble_eq_true rfl) dX8_gets_127)
      · rw [if_pos c_111] at h
        refine lv_aload_n hx hb dX8_gets_98 rfl (lv_at hl 0 rfl) ?_
        refine r_get C hR 8 0 12 (v := .ref (a 4 0)) (lv0 (by decide) (by decide)) (by decide) (by decide) rfl fl_X8_79 dX8_gets_99 ?_
        refine lv_aload_n hx hb dX8_gets_102 rfl (lv_at hl 0 rfl) ?_
        refine r_get C hR 8 0 5 (v := .ref (a 52 0)) (lv0 (by decide) (by decide)) (by decide) (by decide) rfl fl_X8_37 dX8_gets_103 ?_
        refine lv_iload_n hx hb dX8_gets_106 rfl (lv_at hl 1 rfl) ?_
        obtain ⟨k116, hk116, h⟩ := ob h
        have hLk116 : k116 < cntS 1 := by have q1 := (ck_in hk116).2.2; have q2 : cntS 1 = 5 := rfl; omega
        refine r_aald C hR 52 0 1 0 4 (lv0 (by decide) (by decide)) (by decide) rfl rfl rfl (fun _ => rfl) rfl hk116 dX8_gets_107 ?_
        obtain ⟨⟨x118, u119⟩, hc117, h⟩ := ob h
        replace h := bd_x (x := x118) rfl h
        replace h := bd_x (x := u119) rfl h
        refine r_callV1 (As := [.ref (a 1 k116)]) (rest := []) (r := 4) (i := 0) C (vX4_getsNow hLk116 hc117) hR hS (lv0 (by decide) (by decide)) (by decide) ml_X8_236 mw_X4_getsNow rfl ⟨Nat.le_of_ble_eq_true rfl, Nat.le_of_ble_eq_true rfl, Nat.le_of_ble_eq_true rfl, Nat.le_of_ble_eq_true rfl⟩ hl.1 rfl (Nat.le_of_ble_eq_true rfl) dX8_gets_108 (fun H locs hR hS => ?_)
        refine lv_goto (tgt := 127) hx hb dX8_gets_111 (by decide) ?_
        cases h
        exact x_ret (e_iret C hr hR hS (Nat.le_of_ble_eq_true rfl) (Nat.le_of_ble_eq_true rfl) dX8_gets_127)
    · rw [if_pos c_108] at h
      refine lv_aload_n hx hb dX8_gets_66 rfl (lv_at hl 0 rfl) ?_
      refine r_get C hR 8 0 12 (v := .ref (a 4 0)) (lv0 (by decide) (by decide)) (by decide) (by decide) rfl fl_X8_79 dX8_gets_67 ?_
      refine lv_aload_n hx hb dX8_gets_70 rfl (lv_at hl 0 rfl) ?_
      refine r_get C hR 8 0 5 (v := .ref (a 52 0)) (lv0 (by decide) (by decide)) (by decide) (by decide) rfl fl_X8_37 dX8_gets_71 ?_
      refine lv_iload_n hx hb dX8_gets_74 rfl (lv_at hl 1 rfl) ?_
      obtain ⟨k120, hk120, h⟩ := ob h
      have hLk120 : k120 < cntS 1 := by have q1 := (ck_in hk120).2.2; have q2 : cntS 1 = 5 := rfl; omega
      refine r_aald C hR 52 0 1 0 4 (lv0 (by decide) (by decide)) (by decide) rfl rfl rfl (fun _ => rfl) rfl hk120 dX8_gets_75 ?_
      refine lv_iload_n hx hb dX8_gets_76 rfl (lv_at hl 3 rfl) ?_
      refine lv_iload hx hb dX8_gets_77 (lv_at hl 4 rfl) ?_
      obtain ⟨⟨x122, u123⟩, hc121, h⟩ := ob h
      replace h := bd_x (x := x122) rfl h
      replace h := bd_x (x := u123) rfl h
      refine r_callV1 (As := [.ref (a 1 k120), .int x3, .int x4]) (rest := []) (r := 4) (i := 0) C (vX4_sumTo hLk120 hc121) hR hS (lv0 (by decide) (by decide)) (by decide) ml_X8_232 mw_X4_sumTo rfl ⟨Nat.le_of_ble_eq_true rfl, Nat.le_of_ble_eq_true rfl, Nat.le_of_ble_eq_true rfl, Nat.le_of_ble_eq_true rfl⟩ hl.1 rfl (Nat.le_of_ble_eq_true rfl) dX8_gets_79 (fun H locs hR hS => ?_)
      cases h
      exact x_ret (e_iret C hr hR hS (Nat.le_of_ble_eq_true rfl) (Nat.le_of_ble_eq_true rfl) dX8_gets_82)
  clear h
  have h := hz
  clear hz
  refine jp_cut h (fun j124 hj124 h => ?_)
  have Kj124 : ∀  (H : Heap) (locs : List Loc) (ls : Array Slot), j124 = some x103 → Rel E a u0 H → va_S (AE E) s.heap H locs → lv_has ls 6 [(0, .ref (a 8 0)), (1, .int x1), (2, .int x2), (3, .int x3), (4, .int x4), (5, .int x5)] → W p l e { frames := 7, cells := 3, slots := 18, locals := 119 } s m args below meth c H locs 2 12 (vx_MQ below (QX E a out.1 (some (.int out.2.1)) out.2.2) (XW E a out.1 out.2.2) args s 3 18 (AE E)) (F0 m 49 ls []) := by
    intro  H locs ls h hR hS hl
    replace h := jx0 hj124 h
    refine lv_iconst (v := 0) hx hb dX8_gets_49 (by decide) ?_
    cases h
    exact Kj104 _ _ _ hR hS (lv_sub hl [0, 1, 2, 3, 4, 5] rfl)
  refine lv_if_lt (tgt := 49) hx hb dX8_gets_11 (by decide) (fun c_125 => ?_) (fun c_125 => ?_)
  · rw [if_pos c_125] at h
    exact Kj124  _ _ _ h hR hS (lv_sub hl [0, 1, 2, 3, 4, 5] rfl)
  · rw [if_neg c_125] at h
    refine lv_iload_n hx hb dX8_gets_14 rfl (lv_at hl 3 rfl) ?_
    refine lv_aload_n hx hb dX8_gets_15 rfl (lv_at hl 0 rfl) ?_
    refine lv_iload_n hx hb dX8_gets_16 rfl (lv_at hl 2 rfl) ?_
    obtain ⟨k127, hc126, h⟩ := ob h
    have hLk127 : k127 < cntS 3 := vX8_sceneFor_lt hc126
    refine r_callV1 (As := [.int x2]) (rest := [.int x3]) (r := 8) (i := 0) C (vX8_sceneFor hc126) hR hS (lv0 (by decide) (by decide)) (by decide) ml_X8_216 mw_X8_sceneFor rfl ⟨Nat.le_of_ble_eq_true rfl, Nat.le_of_ble_eq_true rfl, Nat.le_of_ble_eq_true rfl, Nat.le_of_ble_eq_true rfl⟩ hl.1 rfl (Nat.le_of_ble_eq_true rfl) dX8_gets_17 (fun H locs hR hS => ?_)
    refine r_get C hR 3 k127 0 (v := .int (gI u0 3 k127 0)) (lv0 hLk127 (by decide)) (by decide) (by decide) rfl fl_X8_131 dX8_gets_20 ?_
    refine lv_icmp_ge (tgt := 49) hx hb dX8_gets_23 (by decide) (fun c_128 => ?_) (fun c_128 => ?_)
    · rw [if_pos c_128] at h
      exact Kj124  _ _ _ h hR hS (lv_sub hl [0, 1, 2, 3, 4, 5] rfl)
    · rw [if_neg c_128] at h
      refine lv_iload hx hb dX8_gets_26 (lv_at hl 4 rfl) ?_
      obtain ⟨x130, hc129, h⟩ := ob h
      refine r_callS1 (As := [.int x4]) (rest := []) C (vX8_isTenth hc129) hR hS ml_X8_149 ms_X8_isTenth rfl ⟨Nat.le_of_ble_eq_true rfl, Nat.le_of_ble_eq_true rfl, Nat.le_of_ble_eq_true rfl, Nat.le_of_ble_eq_true rfl⟩ hl.1 rfl (Nat.le_of_ble_eq_true rfl) dX8_gets_28 (fun H locs hR hS => ?_)
      refine lv_if_eq (tgt := 49) hx hb dX8_gets_31 (by decide) (fun c_131 => ?_) (fun c_131 => ?_)
      · rw [if_pos c_131] at h
        exact Kj124  _ _ _ h hR hS (lv_sub hl [0, 1, 2, 3, 4, 5] rfl)
      · rw [if_neg c_131] at h
        refine lv_iload hx hb dX8_gets_34 (lv_at hl 5 rfl) ?_
        refine lv_if_lt (tgt := 49) hx hb dX8_gets_36 (by decide) (fun c_132 => ?_) (fun c_132 => ?_)
        · rw [if_pos c_132] at h
          exact Kj124  _ _ _ h hR hS (lv_sub hl [0, 1, 2, 3, 4, 5] rfl)
        · rw [if_neg c_132] at h
          refine lv_iload hx hb dX8_gets_39 (lv_at hl 5 rfl) ?_
          refine lv_iconst (v := 2) hx hb dX8_gets_41 (by decide) ?_
          refine lv_icmp_gt (tgt := 49) hx hb dX8_gets_42 (by decide) (fun c_133 => ?_) (fun c_133 => ?_)
          · rw [if_pos c_133] at h
            exact Kj124  _ _ _ h hR hS (lv_sub hl [0, 1, 2, 3, 4, 5] rfl)
          · rw [if_neg c_133] at h
            refine lv_iconst (v := 1) hx hb dX8_gets_45 (by decide) ?_
            refine lv_goto (tgt := 50) hx hb dX8_gets_46 (by decide) ?_
            cases h
            exact Kj104 _ _ _ hR hS (lv_sub hl [0, 1, 2, 3, 4, 5] rfl)
set_option maxHeartbeats 4000000 in
set_option maxRecDepth 100000 in
theorem vX8_seen {l : Launch} (hfl : l.stackTraces = false) {E : EV} {a : Nat → Nat → Nat} {u0 : HS} {x1 : Int32} {x2 : Int32} {x3 : Int32} {out : (Nat × Int32 × HS)} (h : mX8_seen u0 x1 x2 x3 = some out) : CtX l E yX8_seen cX8_seen 4 (some .int) 7 114 3 18 a u0 [.ref (a 8 0), .int x1, .int x2, .int x3] out.1 (some (.int out.2.1)) out.2.2 := by
  refine CtX.start (by decide) (Nat.le_of_ble_eq_true rfl) ?_
  intro p e s m args below meth c ls hT0 C hr hR hS hl
  have C : Cx E p s m args meth c cX8_seen 4 RX8 := C
  have hl : lv_has ls 4 [(0, .ref (a 8 0)), (1, .int x1), (2, .int x2), (3, .int x3)] := hl
  have hx := C.1
  have hb := C.2.1
  unfold mX8_seen at h
  refine lv_aload_n hx hb dX8_seen_0 rfl (lv_at hl 0 rfl) ?_
  refine lv_iload_n hx hb dX8_seen_1 rfl (lv_at hl 1 rfl) ?_
  obtain ⟨t101, hc101, h⟩ := ob h
  refine r_callXV (Qc := QX E a out.1 (some (.int out.2.1)) out.2.2) (mc0 := 3) (ms0 := 18) (As := [.int x1]) (rest := []) (r := 8) (i := 0) C hT0 (vX8_requireLaw hfl hc101) hR hS (lv0 (by decide) (by decide)) (by decide) ml_X8_229 mw_X8_requireLaw rfl ⟨Nat.le_of_ble_eq_true rfl, Nat.le_of_ble_eq_true rfl, Nat.le_of_ble_eq_true rfl, Nat.le_of_ble_eq_true rfl⟩ ⟨Nat.le_of_ble_eq_true rfl, Nat.le_of_ble_eq_true rfl⟩ hl.1 rfl (Nat.le_of_ble_eq_true rfl) dX8_seen_2 (fun hk => ?_) (fun hk H locs hR hS => ?_)
  · rw [xq_ne hk] at h
    cases h
    exact fun _ q => q
  rw [xq_0 hk] at h
  refine lv_aload_n hx hb dX8_seen_5 rfl (lv_at hl 0 rfl) ?_
  refine lv_iload_n hx hb dX8_seen_6 rfl (lv_at hl 2 rfl) ?_
  obtain ⟨t102, hc102, h⟩ := ob h
  refine r_callXV (Qc := QX E a out.1 (some (.int out.2.1)) out.2.2) (mc0 := 3) (ms0 := 18) (As := [.int x2]) (rest := []) (r := 8) (i := 0) C hT0 (vX8_requireLooker hfl hc102) hR hS (lv0 (by decide) (by decide)) (by decide) ml_X8_199 mw_X8_requireLooker rfl ⟨Nat.le_of_ble_eq_true rfl, Nat.le_of_ble_eq_true rfl, Nat.le_of_ble_eq_true rfl, Nat.le_of_ble_eq_true rfl⟩ ⟨Nat.le_of_ble_eq_true rfl, Nat.le_of_ble_eq_true rfl⟩ hl.1 rfl (Nat.le_of_ble_eq_true rfl) dX8_seen_7 (fun hk => ?_) (fun hk H locs hR hS => ?_)
  · rw [xq_ne hk] at h
    cases h
    exact fun _ q => q
  rw [xq_0 hk] at h
  refine lv_iload_n hx hb dX8_seen_10 rfl (lv_at hl 3 rfl) ?_
  obtain ⟨x103, hz, h⟩ := ob h
  have Kj104 : ∀ (H : Heap) (locs : List Loc) (ls : Array Slot), Rel E a u0 H → va_S (AE E) s.heap H locs → lv_has ls 4 [(0, .ref (a 8 0)), (1, .int x1), (2, .int x2), (3, .int x3)] → W p l e { frames := 7, cells := 3, slots := 18, locals := 114 } s m args below meth c H locs 2 12 (vx_MQ below (QX E a out.1 (some (.int out.2.1)) out.2.2) (XW E a out.1 out.2.2) args s 3 18 (AE E)) (F0 m 31 ls [.int x103]) := by
    intro H locs ls hR hS hl
    clear hz
    obtain ⟨t105, hc105, h⟩ := ob h
    refine r_callXS (Qc := QX E a out.1 (some (.int out.2.1)) out.2.2) (mc0 := 3) (ms0 := 18) (As := [.int x103]) (rest := []) C hT0 (vX8_require hfl hc105) hR hS ml_X8_105 ms_X8_require rfl ⟨Nat.le_of_ble_eq_true rfl, Nat.le_of_ble_eq_true rfl, Nat.le_of_ble_eq_true rfl, Nat.le_of_ble_eq_true rfl⟩ ⟨Nat.le_of_ble_eq_true rfl, Nat.le_of_ble_eq_true rfl⟩ hl.1 rfl (Nat.le_of_ble_eq_true rfl) dX8_seen_31 (fun hk => ?_) (fun hk H locs hR hS => ?_)
    · rw [xq_ne hk] at h
      cases h
      exact fun _ q => q
    rw [xq_0 hk] at h
    refine lv_aload_n hx hb dX8_seen_34 rfl (lv_at hl 0 rfl) ?_
    refine lv_iload_n hx hb dX8_seen_35 rfl (lv_at hl 2 rfl) ?_
    refine lv_aload_n hx hb dX8_seen_36 rfl (lv_at hl 0 rfl) ?_
    refine lv_iload_n hx hb dX8_seen_37 rfl (lv_at hl 2 rfl) ?_
    obtain ⟨k107, hc106, h⟩ := ob h
    have hLk107 : k107 < cntS 3 := vX8_sceneFor_lt hc106
    refine r_callV1 (As := [.int x2]) (rest := [.int x2, .ref (a 8 0)]) (r := 8) (i := 0) C (vX8_sceneFor hc106) hR hS (lv0 (by decide) (by decide)) (by decide) ml_X8_216 mw_X8_sceneFor rfl ⟨Nat.le_of_ble_eq_true rfl, Nat.le_of_ble_eq_true rfl, Nat.le_of_ble_eq_true rfl, Nat.le_of_ble_eq_true rfl⟩ hl.1 rfl (Nat.le_of_ble_eq_true rfl) dX8_seen_38 (fun H locs hR hS => ?_)
    refine r_get C hR 3 k107 11 (v := .int (gI u0 3 k107 11)) (lv0 hLk107 (by decide)) (by decide) (by decide) rfl fl_X8_140 dX8_seen_41 ?_
    obtain ⟨u109, hc108, h⟩ := ob h
    refine r_callV0 (As := [.int x2, .int (gI u0 3 k107 11)]) (rest := []) (r := 8) (i := 0) C (vX8_lookAs hc108) hR hS (lv0 (by decide) (by decide)) (by decide) ml_X8_209 mw_X8_lookAs rfl ⟨Nat.le_of_ble_eq_true rfl, Nat.le_of_ble_eq_true rfl, Nat.le_of_ble_eq_true rfl, Nat.le_of_ble_eq_true rfl⟩ hl.1 rfl (Nat.le_of_ble_eq_true rfl) dX8_seen_44 (fun H locs hR hS => ?_)
    refine lv_aload_n hx hb dX8_seen_47 rfl (lv_at hl 0 rfl) ?_
    refine r_get C hR 8 0 12 (v := .ref (a 4 0)) (lv0 (by decide) (by decide)) (by decide) (by decide) rfl fl_X8_79 dX8_seen_48 ?_
    refine lv_aload_n hx hb dX8_seen_51 rfl (lv_at hl 0 rfl) ?_
    refine r_get C hR 8 0 5 (v := .ref (a 52 0)) (lv0 (by decide) (by decide)) (by decide) (by decide) rfl fl_X8_37 dX8_seen_52 ?_
    refine lv_iload_n hx hb dX8_seen_55 rfl (lv_at hl 1 rfl) ?_
    obtain ⟨k110, hk110, h⟩ := ob h
    have hLk110 : k110 < cntS 1 := by have q1 := (ck_in hk110).2.2; have q2 : cntS 1 = 5 := rfl; omega
    refine r_aald C hR 52 0 1 0 4 (lv0 (by decide) (by decide)) (by decide) rfl rfl rfl (fun _ => rfl) rfl hk110 dX8_seen_56 ?_
    refine lv_iload_n hx hb dX8_seen_57 rfl (lv_at hl 3 rfl) ?_
    obtain ⟨⟨x112, u113⟩, hc111, h⟩ := ob h
    replace h := bd_x (x := x112) rfl h
    replace h := bd_x (x := u113) rfl h
    refine r_callV1 (As := [.ref (a 1 k110), .int x3]) (rest := []) (r := 4) (i := 0) C (vX4_firstSeen hLk110 hc111) hR hS (lv0 (by decide) (by decide)) (by decide) ml_X8_243 mw_X4_firstSeen rfl ⟨Nat.le_of_ble_eq_true rfl, Nat.le_of_ble_eq_true rfl, Nat.le_of_ble_eq_true rfl, Nat.le_of_ble_eq_true rfl⟩ hl.1 rfl (Nat.le_of_ble_eq_true rfl) dX8_seen_58 (fun H locs hR hS => ?_)
    cases h
    exact x_ret (e_iret C hr hR hS (Nat.le_of_ble_eq_true rfl) (Nat.le_of_ble_eq_true rfl) dX8_seen_61)
  clear h
  have h := hz
  clear hz
  refine jp_cut h (fun j114 hj114 h => ?_)
  have Kj114 : ∀  (H : Heap) (locs : List Loc) (ls : Array Slot), j114 = some x103 → Rel E a u0 H → va_S (AE E) s.heap H locs → lv_has ls 4 [(0, .ref (a 8 0)), (1, .int x1), (2, .int x2), (3, .int x3)] → W p l e { frames := 7, cells := 3, slots := 18, locals := 114 } s m args below meth c H locs 2 12 (vx_MQ below (QX E a out.1 (some (.int out.2.1)) out.2.2) (XW E a out.1 out.2.2) args s 3 18 (AE E)) (F0 m 30 ls []) := by
    intro  H locs ls h hR hS hl
    replace h := jx0 hj114 h
    refine lv_iconst (v := 0) hx hb dX8_seen_30 (by decide) ?_
    cases h
    exact Kj104 _ _ _ hR hS (lv_sub hl [0, 1, 2, 3] rfl)
  refine lv_if_lt (tgt := 30) hx hb dX8_seen_11 (by decide) (fun c_115 => ?_) (fun c_115 => ?_)
  · rw [if_pos c_115] at h
    exact Kj114  _ _ _ h hR hS (lv_sub hl [0, 1, 2, 3] rfl)
  · rw [if_neg c_115] at h
    refine lv_iload_n hx hb dX8_seen_14 rfl (lv_at hl 3 rfl) ?_
    refine lv_aload_n hx hb dX8_seen_15 rfl (lv_at hl 0 rfl) ?_
    refine lv_iload_n hx hb dX8_seen_16 rfl (lv_at hl 2 rfl) ?_
    obtain ⟨k117, hc116, h⟩ := ob h
    have hLk117 : k117 < cntS 3 := vX8_sceneFor_lt hc116
    refine r_callV1 (As := [.int x2]) (rest := [.int x3]) (r := 8) (i := 0) C (vX8_sceneFor hc116) hR hS (lv0 (by decide) (by decide)) (by decide) ml_X8_216 mw_X8_sceneFor rfl ⟨Nat.le_of_ble_eq_true rfl, Nat.le_of_ble_eq_true rfl, Nat.le_of_ble_eq_true rfl, Nat.le_of_ble_eq_true rfl⟩ hl.1 rfl (Nat.le_of_ble_eq_true rfl) dX8_seen_17 (fun H locs hR hS => ?_)
    refine r_get C hR 3 k117 0 (v := .int (gI u0 3 k117 0)) (lv0 hLk117 (by decide)) (by decide) (by decide) rfl fl_X8_131 dX8_seen_20 ?_
    refine lv_icmp_ge (tgt := 30) hx hb dX8_seen_23 (by decide) (fun c_118 => ?_) (fun c_118 => ?_)
    · rw [if_pos c_118] at h
      exact Kj114  _ _ _ h hR hS (lv_sub hl [0, 1, 2, 3] rfl)
    · rw [if_neg c_118] at h
      refine lv_iconst (v := 1) hx hb dX8_seen_26 (by decide) ?_
      refine lv_goto (tgt := 31) hx hb dX8_seen_27 (by decide) ?_
      cases h
      exact Kj104 _ _ _ hR hS (lv_sub hl [0, 1, 2, 3] rfl)
set_option maxHeartbeats 4000000 in
set_option maxRecDepth 100000 in
theorem vX8_says {l : Launch} (hfl : l.stackTraces = false) {E : EV} {a : Nat → Nat → Nat} {u0 : HS} {x1 : Int32} {x2 : Int32} {x3 : Int32} {out : (Nat × Int32 × HS)} (h : mX8_says u0 x1 x2 x3 = some out) : CtX l E yX8_says cX8_says 4 (some .boolean) 7 145 3 18 a u0 [.ref (a 8 0), .int x1, .int x2, .int x3] out.1 (some (.int out.2.1)) out.2.2 := by
  refine CtX.start (by decide) (Nat.le_of_ble_eq_true rfl) ?_
  intro p e s m args below meth c ls hT0 C hr hR hS hl
  have C : Cx E p s m args meth c cX8_says 4 RX8 := C
  have hl : lv_has ls 4 [(0, .ref (a 8 0)), (1, .int x1), (2, .int x2), (3, .int x3)] := hl
  have hx := C.1
  have hb := C.2.1
  unfold mX8_says at h
  refine lv_aload_n hx hb dX8_says_0 rfl (lv_at hl 0 rfl) ?_
  refine lv_iload_n hx hb dX8_says_1 rfl (lv_at hl 1 rfl) ?_
  obtain ⟨t101, hc101, h⟩ := ob h
  refine r_callXV (Qc := QX E a out.1 (some (.int out.2.1)) out.2.2) (mc0 := 3) (ms0 := 18) (As := [.int x1]) (rest := []) (r := 8) (i := 0) C hT0 (vX8_requireLaw hfl hc101) hR hS (lv0 (by decide) (by decide)) (by decide) ml_X8_229 mw_X8_requireLaw rfl ⟨Nat.le_of_ble_eq_true rfl, Nat.le_of_ble_eq_true rfl, Nat.le_of_ble_eq_true rfl, Nat.le_of_ble_eq_true rfl⟩ ⟨Nat.le_of_ble_eq_true rfl, Nat.le_of_ble_eq_true rfl⟩ hl.1 rfl (Nat.le_of_ble_eq_true rfl) dX8_says_2 (fun hk => ?_) (fun hk H locs hR hS => ?_)
  · rw [xq_ne hk] at h
    cases h
    exact fun _ q => q
  rw [xq_0 hk] at h
  refine lv_aload_n hx hb dX8_says_5 rfl (lv_at hl 0 rfl) ?_
  refine lv_iload_n hx hb dX8_says_6 rfl (lv_at hl 2 rfl) ?_
  obtain ⟨t102, hc102, h⟩ := ob h
  refine r_callXV (Qc := QX E a out.1 (some (.int out.2.1)) out.2.2) (mc0 := 3) (ms0 := 18) (As := [.int x2]) (rest := []) (r := 8) (i := 0) C hT0 (vX8_requireLooker hfl hc102) hR hS (lv0 (by decide) (by decide)) (by decide) ml_X8_199 mw_X8_requireLooker rfl ⟨Nat.le_of_ble_eq_true rfl, Nat.le_of_ble_eq_true rfl, Nat.le_of_ble_eq_true rfl, Nat.le_of_ble_eq_true rfl⟩ ⟨Nat.le_of_ble_eq_true rfl, Nat.le_of_ble_eq_true rfl⟩ hl.1 rfl (Nat.le_of_ble_eq_true rfl) dX8_says_7 (fun hk => ?_) (fun hk H locs hR hS => ?_)
  · rw [xq_ne hk] at h
    cases h
    exact fun _ q => q
  rw [xq_0 hk] at h
  refine lv_iload_n hx hb dX8_says_10 rfl (lv_at hl 3 rfl) ?_
  obtain ⟨x104, hc103, h⟩ := ob h
  refine r_callS1 (As := [.int x3]) (rest := []) C (vX8_isAsking hc103) hR hS ml_X8_247 ms_X8_isAsking rfl ⟨Nat.le_of_ble_eq_true rfl, Nat.le_of_ble_eq_true rfl, Nat.le_of_ble_eq_true rfl, Nat.le_of_ble_eq_true rfl⟩ hl.1 rfl (Nat.le_of_ble_eq_true rfl) dX8_says_11 (fun H locs hR hS => ?_)
  obtain ⟨t105, hc105, h⟩ := ob h
  refine r_callXS (Qc := QX E a out.1 (some (.int out.2.1)) out.2.2) (mc0 := 3) (ms0 := 18) (As := [.int x104]) (rest := []) C hT0 (vX8_require hfl hc105) hR hS ml_X8_105 ms_X8_require rfl ⟨Nat.le_of_ble_eq_true rfl, Nat.le_of_ble_eq_true rfl, Nat.le_of_ble_eq_true rfl, Nat.le_of_ble_eq_true rfl⟩ ⟨Nat.le_of_ble_eq_true rfl, Nat.le_of_ble_eq_true rfl⟩ hl.1 rfl (Nat.le_of_ble_eq_true rfl) dX8_says_14 (fun hk => ?_) (fun hk H locs hR hS => ?_)
  · rw [xq_ne hk] at h
    cases h
    exact fun _ q => q
  rw [xq_0 hk] at h
  refine lv_aload_n hx hb dX8_says_17 rfl (lv_at hl 0 rfl) ?_
  refine lv_iload_n hx hb dX8_says_18 rfl (lv_at hl 1 rfl) ?_
  refine lv_iload_n hx hb dX8_says_19 rfl (lv_at hl 2 rfl) ?_
  obtain ⟨⟨x107, u108⟩, hc106, h⟩ := ob h
  replace h := bd_x (x := x107) rfl h
  replace h := bd_x (x := u108) rfl h
  refine r_callV1 (As := [.int x1, .int x2]) (rest := []) (r := 8) (i := 0) C (vX8_stateOf hc106) hR hS (lv0 (by decide) (by decide)) (by decide) ml_X8_250 mw_X8_stateOf rfl ⟨Nat.le_of_ble_eq_true rfl, Nat.le_of_ble_eq_true rfl, Nat.le_of_ble_eq_true rfl, Nat.le_of_ble_eq_true rfl⟩ hl.1 rfl (Nat.le_of_ble_eq_true rfl) dX8_says_20 (fun H locs hR hS => ?_)
  refine lv_iload_n hx hb dX8_says_23 rfl (lv_at hl 3 rfl) ?_
  obtain ⟨x110, hc109, h⟩ := ob h
  refine r_callS1 (As := [.int x107, .int x3]) (rest := []) C (vX8_isYes hc109) hR hS ml_X8_253 ms_X8_isYes rfl ⟨Nat.le_of_ble_eq_true rfl, Nat.le_of_ble_eq_true rfl, Nat.le_of_ble_eq_true rfl, Nat.le_of_ble_eq_true rfl⟩ hl.1 rfl (Nat.le_of_ble_eq_true rfl) dX8_says_24 (fun H locs hR hS => ?_)
  obtain ⟨_, hz111, h⟩ := ob h
  cases h
  exact x_ret (e_zret C hr (zb_narrow hz111) hR hS (Nat.le_of_ble_eq_true rfl) (Nat.le_of_ble_eq_true rfl) dX8_says_27)
set_option maxHeartbeats 4000000 in
set_option maxRecDepth 100000 in
theorem vX8_miss {l : Launch} (hfl : l.stackTraces = false) {E : EV} {a : Nat → Nat → Nat} {u0 : HS} {x1 : Int32} {x2 : Int32} {x3 : Int32} {out : (Nat × Int32 × HS)} (h : mX8_miss u0 x1 x2 x3 = some out) : CtX l E yX8_miss cX8_miss 5 (some .int) 7 145 3 18 a u0 [.ref (a 8 0), .int x1, .int x2, .int x3] out.1 (some (.int out.2.1)) out.2.2 := by
  refine CtX.start (by decide) (Nat.le_of_ble_eq_true rfl) ?_
  intro p e s m args below meth c ls hT0 C hr hR hS hl
  have C : Cx E p s m args meth c cX8_miss 5 RX8 := C
  have hl : lv_has ls 5 [(0, .ref (a 8 0)), (1, .int x1), (2, .int x2), (3, .int x3)] := hl
  have hx := C.1
  have hb := C.2.1
  unfold mX8_miss at h
  refine lv_aload_n hx hb dX8_miss_0 rfl (lv_at hl 0 rfl) ?_
  refine lv_iload_n hx hb dX8_miss_1 rfl (lv_at hl 1 rfl) ?_
  obtain ⟨t101, hc101, h⟩ := ob h
  refine r_callXV (Qc := QX E a out.1 (some (.int out.2.1)) out.2.2) (mc0 := 3) (ms0 := 18) (As := [.int x1]) (rest := []) (r := 8) (i := 0) C hT0 (vX8_requireLaw hfl hc101) hR hS (lv0 (by decide) (by decide)) (by decide) ml_X8_229 mw_X8_requireLaw rfl ⟨Nat.le_of_ble_eq_true rfl, Nat.le_of_ble_eq_true rfl, Nat.le_of_ble_eq_true rfl, Nat.le_of_ble_eq_true rfl⟩ ⟨Nat.le_of_ble_eq_true rfl, Nat.le_of_ble_eq_true rfl⟩ hl.1 rfl (Nat.le_of_ble_eq_true rfl) dX8_miss_2 (fun hk => ?_) (fun hk H locs hR hS => ?_)
  · rw [xq_ne hk] at h
    cases h
    exact fun _ q => q
  rw [xq_0 hk] at h
  refine lv_aload_n hx hb dX8_miss_5 rfl (lv_at hl 0 rfl) ?_
  refine lv_iload_n hx hb dX8_miss_6 rfl (lv_at hl 2 rfl) ?_
  obtain ⟨t102, hc102, h⟩ := ob h
  refine r_callXV (Qc := QX E a out.1 (some (.int out.2.1)) out.2.2) (mc0 := 3) (ms0 := 18) (As := [.int x2]) (rest := []) (r := 8) (i := 0) C hT0 (vX8_requireLooker hfl hc102) hR hS (lv0 (by decide) (by decide)) (by decide) ml_X8_199 mw_X8_requireLooker rfl ⟨Nat.le_of_ble_eq_true rfl, Nat.le_of_ble_eq_true rfl, Nat.le_of_ble_eq_true rfl, Nat.le_of_ble_eq_true rfl⟩ ⟨Nat.le_of_ble_eq_true rfl, Nat.le_of_ble_eq_true rfl⟩ hl.1 rfl (Nat.le_of_ble_eq_true rfl) dX8_miss_7 (fun hk => ?_) (fun hk H locs hR hS => ?_)
  · rw [xq_ne hk] at h
    cases h
    exact fun _ q => q
  rw [xq_0 hk] at h
  refine lv_iload_n hx hb dX8_miss_10 rfl (lv_at hl 3 rfl) ?_
  refine lv_iconst (v := 1) hx hb dX8_miss_11 (by decide) ?_
  obtain ⟨x103, hz, h⟩ := ob h
  have Kj104 : ∀ (H : Heap) (locs : List Loc) (ls : Array Slot), Rel E a u0 H → va_S (AE E) s.heap H locs → lv_has ls 5 [(0, .ref (a 8 0)), (1, .int x1), (2, .int x2), (3, .int x3)] → W p l e { frames := 7, cells := 3, slots := 18, locals := 145 } s m args below meth c H locs 2 12 (vx_MQ below (QX E a out.1 (some (.int out.2.1)) out.2.2) (XW E a out.1 out.2.2) args s 3 18 (AE E)) (F0 m 26 ls [.int x103]) := by
    intro H locs ls hR hS hl
    clear hz
    obtain ⟨t105, hc105, h⟩ := ob h
    refine r_callXS (Qc := QX E a out.1 (some (.int out.2.1)) out.2.2) (mc0 := 3) (ms0 := 18) (As := [.int x103]) (rest := []) C hT0 (vX8_require hfl hc105) hR hS ml_X8_105 ms_X8_require rfl ⟨Nat.le_of_ble_eq_true rfl, Nat.le_of_ble_eq_true rfl, Nat.le_of_ble_eq_true rfl, Nat.le_of_ble_eq_true rfl⟩ ⟨Nat.le_of_ble_eq_true rfl, Nat.le_of_ble_eq_true rfl⟩ hl.1 rfl (Nat.le_of_ble_eq_true rfl) dX8_miss_26 (fun hk => ?_) (fun hk H locs hR hS => ?_)
    · rw [xq_ne hk] at h
      cases h
      exact fun _ q => q
    rw [xq_0 hk] at h
    refine lv_aload_n hx hb dX8_miss_29 rfl (lv_at hl 0 rfl) ?_
    refine lv_iload_n hx hb dX8_miss_30 rfl (lv_at hl 1 rfl) ?_
    refine lv_iload_n hx hb dX8_miss_31 rfl (lv_at hl 2 rfl) ?_
    obtain ⟨⟨x107, u108⟩, hc106, h⟩ := ob h
    replace h := bd_x (x := x107) rfl h
    replace h := bd_x (x := u108) rfl h
    refine r_callV1 (As := [.int x1, .int x2]) (rest := []) (r := 8) (i := 0) C (vX8_stateOf hc106) hR hS (lv0 (by decide) (by decide)) (by decide) ml_X8_250 mw_X8_stateOf rfl ⟨Nat.le_of_ble_eq_true rfl, Nat.le_of_ble_eq_true rfl, Nat.le_of_ble_eq_true rfl, Nat.le_of_ble_eq_true rfl⟩ hl.1 rfl (Nat.le_of_ble_eq_true rfl) dX8_miss_32 (fun H locs hR hS => ?_)
    refine lv_istore (lv' := [(4, .int x107), (0, .ref (a 8 0)), (1, .int x1), (2, .int x2), (3, .int x3)]) hx hb dX8_miss_35 hl (by decide) rfl (fun ls hl => ?_)
    refine lv_iload hx hb dX8_miss_37 (lv_at hl 0 rfl) ?_
    refine lv_iconst (v := 0) hx hb dX8_miss_39 (by decide) ?_
    obtain ⟨x110, hc109, h⟩ := ob h
    refine r_callS1 (As := [.int x107, .int 0]) (rest := []) C (vX8_isYes hc109) hR hS ml_X8_253 ms_X8_isYes rfl ⟨Nat.le_of_ble_eq_true rfl, Nat.le_of_ble_eq_true rfl, Nat.le_of_ble_eq_true rfl, Nat.le_of_ble_eq_true rfl⟩ hl.1 rfl (Nat.le_of_ble_eq_true rfl) dX8_miss_40 (fun H locs hR hS => ?_)
    refine lv_if_eq (tgt := 64) hx hb dX8_miss_43 (by decide) (fun c_111 => ?_) (fun c_111 => ?_)
    · rw [if_pos c_111] at h
      refine lv_iload hx hb dX8_miss_64 (lv_at hl 0 rfl) ?_
      refine lv_iconst (v := 1) hx hb dX8_miss_66 (by decide) ?_
      refine lv_iand hx hb dX8_miss_67 ?_
      refine lv_if_eq (tgt := 84) hx hb dX8_miss_68 (by decide) (fun c_112 => ?_) (fun c_112 => ?_)
      · rw [if_pos c_112] at h
        refine lv_aload_n hx hb dX8_miss_84 rfl (lv_at hl 1 rfl) ?_
        refine lv_iload_n hx hb dX8_miss_85 rfl (lv_at hl 3 rfl) ?_
        refine lv_aload_n hx hb dX8_miss_86 rfl (lv_at hl 1 rfl) ?_
        refine lv_iload_n hx hb dX8_miss_87 rfl (lv_at hl 3 rfl) ?_
        obtain ⟨k114, hc113, h⟩ := ob h
        have hLk114 : k114 < cntS 3 := vX8_sceneFor_lt hc113
        refine r_callV1 (As := [.int x2]) (rest := [.int x2, .ref (a 8 0)]) (r := 8) (i := 0) C (vX8_sceneFor hc113) hR hS (lv0 (by decide) (by decide)) (by decide) ml_X8_216 mw_X8_sceneFor rfl ⟨Nat.le_of_ble_eq_true rfl, Nat.le_of_ble_eq_true rfl, Nat.le_of_ble_eq_true rfl, Nat.le_of_ble_eq_true rfl⟩ hl.1 rfl (Nat.le_of_ble_eq_true rfl) dX8_miss_88 (fun H locs hR hS => ?_)
        refine r_get C hR 3 k114 11 (v := .int (gI u108 3 k114 11)) (lv0 hLk114 (by decide)) (by decide) (by decide) rfl fl_X8_140 dX8_miss_91 ?_
        obtain ⟨u116, hc115, h⟩ := ob h
        refine r_callV0 (As := [.int x2, .int (gI u108 3 k114 11)]) (rest := []) (r := 8) (i := 0) C (vX8_lookAs hc115) hR hS (lv0 (by decide) (by decide)) (by decide) ml_X8_209 mw_X8_lookAs rfl ⟨Nat.le_of_ble_eq_true rfl, Nat.le_of_ble_eq_true rfl, Nat.le_of_ble_eq_true rfl, Nat.le_of_ble_eq_true rfl⟩ hl.1 rfl (Nat.le_of_ble_eq_true rfl) dX8_miss_94 (fun H locs hR hS => ?_)
        refine lv_aload_n hx hb dX8_miss_97 rfl (lv_at hl 1 rfl) ?_
        refine r_get C hR 8 0 11 (v := .ref (a 7 0)) (lv0 (by decide) (by decide)) (by decide) (by decide) rfl fl_X8_70 dX8_miss_98 ?_
        refine lv_iload_n hx hb dX8_miss_101 rfl (lv_at hl 4 rfl) ?_
        obtain ⟨x118, hc117, h⟩ := ob h
        refine r_callV1 (As := [.int x3]) (rest := []) (r := 7) (i := 0) C (vX7_blindness hc117) hR hS (lv0 (by decide) (by decide)) (by decide) ml_X8_259 mw_X7_blindness rfl ⟨Nat.le_of_ble_eq_true rfl, Nat.le_of_ble_eq_true rfl, Nat.le_of_ble_eq_true rfl, Nat.le_of_ble_eq_true rfl⟩ hl.1 rfl (Nat.le_of_ble_eq_true rfl) dX8_miss_102 (fun H locs hR hS => ?_)
        cases h
        exact x_ret (e_iret C hr hR hS (Nat.le_of_ble_eq_true rfl) (Nat.le_of_ble_eq_true rfl) dX8_miss_105)
      · rw [if_neg c_112] at h
        refine lv_iload hx hb dX8_miss_71 (lv_at hl 0 rfl) ?_
        refine lv_iconst (v := 2) hx hb dX8_miss_73 (by decide) ?_
        refine lv_iand hx hb dX8_miss_74 ?_
        refine lv_if_eq (tgt := 82) hx hb dX8_miss_75 (by decide) (fun c_119 => ?_) (fun c_119 => ?_)
        · rw [if_pos c_119] at h
          refine lv_iconst (v := 4) hx hb dX8_miss_82 (by decide) ?_
          cases h
          exact x_ret (e_iret C hr hR hS (Nat.le_of_ble_eq_true rfl) (Nat.le_of_ble_eq_true rfl) dX8_miss_83)
        · rw [if_neg c_119] at h
          refine lv_iconst (v := 3) hx hb dX8_miss_78 (by decide) ?_
          refine lv_goto (tgt := 83) hx hb dX8_miss_79 (by decide) ?_
          cases h
          exact x_ret (e_iret C hr hR hS (Nat.le_of_ble_eq_true rfl) (Nat.le_of_ble_eq_true rfl) dX8_miss_83)
    · rw [if_neg c_111] at h
      refine lv_aload_n hx hb dX8_miss_46 rfl (lv_at hl 1 rfl) ?_
      refine r_get C hR 8 0 8 (v := .ref (a 0 0)) (lv0 (by decide) (by decide)) (by decide) (by decide) rfl fl_X8_56 dX8_miss_47 ?_
      refine lv_iload_n hx hb dX8_miss_50 rfl (lv_at hl 3 rfl) ?_
      obtain ⟨x121, hc120, h⟩ := ob h
      refine r_callV1 (As := [.int x2]) (rest := []) (r := 0) (i := 0) C (vX0_isKnowing (by decide) hc120) hR hS (lv0 (by decide) (by decide)) (by decide) ml_X8_256 mw_X0_isKnowing rfl ⟨Nat.le_of_ble_eq_true rfl, Nat.le_of_ble_eq_true rfl, Nat.le_of_ble_eq_true rfl, Nat.le_of_ble_eq_true rfl⟩ hl.1 rfl (Nat.le_of_ble_eq_true rfl) dX8_miss_51 (fun H locs hR hS => ?_)
      refine lv_if_eq (tgt := 62) hx hb dX8_miss_54 (by decide) (fun c_122 => ?_) (fun c_122 => ?_)
      · rw [if_pos c_122] at h
        refine lv_iconst (v := (-1)) hx hb dX8_miss_62 (by decide) ?_
        cases h
        exact x_ret (e_iret C hr hR hS (Nat.le_of_ble_eq_true rfl) (Nat.le_of_ble_eq_true rfl) dX8_miss_63)
      · rw [if_neg c_122] at h
        refine lv_bipush (v := 7) hx hb dX8_miss_57 (by decide) ?_
        refine lv_goto (tgt := 63) hx hb dX8_miss_59 (by decide) ?_
        cases h
        exact x_ret (e_iret C hr hR hS (Nat.le_of_ble_eq_true rfl) (Nat.le_of_ble_eq_true rfl) dX8_miss_63)
  clear h
  have h := hz
  clear hz
  refine jp_cut h (fun j123 hj123 h => ?_)
  have Kj123 : ∀  (H : Heap) (locs : List Loc) (ls : Array Slot), j123 = some x103 → Rel E a u0 H → va_S (AE E) s.heap H locs → lv_has ls 5 [(0, .ref (a 8 0)), (1, .int x1), (2, .int x2), (3, .int x3)] → W p l e { frames := 7, cells := 3, slots := 18, locals := 145 } s m args below meth c H locs 2 12 (vx_MQ below (QX E a out.1 (some (.int out.2.1)) out.2.2) (XW E a out.1 out.2.2) args s 3 18 (AE E)) (F0 m 25 ls []) := by
    intro  H locs ls h hR hS hl
    replace h := jx0 hj123 h
    refine lv_iconst (v := 0) hx hb dX8_miss_25 (by decide) ?_
    cases h
    exact Kj104 _ _ _ hR hS (lv_sub hl [0, 1, 2, 3] rfl)
  refine lv_icmp_lt (tgt := 25) hx hb dX8_miss_12 (by decide) (fun c_124 => ?_) (fun c_124 => ?_)
  · rw [if_pos c_124] at h
    exact Kj123  _ _ _ h hR hS (lv_sub hl [0, 1, 2, 3] rfl)
  · rw [if_neg c_124] at h
    refine lv_iload_n hx hb dX8_miss_15 rfl (lv_at hl 3 rfl) ?_
    refine lv_bipush (v := 99) hx hb dX8_miss_16 (by decide) ?_
    refine lv_icmp_gt (tgt := 25) hx hb dX8_miss_18 (by decide) (fun c_125 => ?_) (fun c_125 => ?_)
    · rw [if_pos c_125] at h
      exact Kj123  _ _ _ h hR hS (lv_sub hl [0, 1, 2, 3] rfl)
    · rw [if_neg c_125] at h
      refine lv_iconst (v := 1) hx hb dX8_miss_21 (by decide) ?_
      refine lv_goto (tgt := 26) hx hb dX8_miss_22 (by decide) ?_
      cases h
      exact Kj104 _ _ _ hR hS (lv_sub hl [0, 1, 2, 3] rfl)
set_option maxHeartbeats 4000000 in
set_option maxRecDepth 100000 in
theorem vX8_drawn {l : Launch} (hfl : l.stackTraces = false) {E : EV} {a : Nat → Nat → Nat} {u0 : HS} {x1 : Int32} {x2 : Int32} {x3 : Int32} {x4 : Int32} {out : (Nat × Int32 × HS)} (h : mX8_drawn u0 x1 x2 x3 x4 = some out) : CtX l E yX8_drawn cX8_drawn 6 (some .int) 7 114 3 18 a u0 [.ref (a 8 0), .int x1, .int x2, .int x3, .int x4] out.1 (some (.int out.2.1)) out.2.2 := by
  refine CtX.start (by decide) (Nat.le_of_ble_eq_true rfl) ?_
  intro p e s m args below meth c ls hT0 C hr hR hS hl
  have C : Cx E p s m args meth c cX8_drawn 6 RX8 := C
  have hl : lv_has ls 6 [(0, .ref (a 8 0)), (1, .int x1), (2, .int x2), (3, .int x3), (4, .int x4)] := hl
  have hx := C.1
  have hb := C.2.1
  unfold mX8_drawn at h
  refine lv_aload_n hx hb dX8_drawn_0 rfl (lv_at hl 0 rfl) ?_
  refine lv_iload_n hx hb dX8_drawn_1 rfl (lv_at hl 1 rfl) ?_
  obtain ⟨t101, hc101, h⟩ := ob h
  refine r_callXV (Qc := QX E a out.1 (some (.int out.2.1)) out.2.2) (mc0 := 3) (ms0 := 18) (As := [.int x1]) (rest := []) (r := 8) (i := 0) C hT0 (vX8_requireLaw hfl hc101) hR hS (lv0 (by decide) (by decide)) (by decide) ml_X8_229 mw_X8_requireLaw rfl ⟨Nat.le_of_ble_eq_true rfl, Nat.le_of_ble_eq_true rfl, Nat.le_of_ble_eq_true rfl, Nat.le_of_ble_eq_true rfl⟩ ⟨Nat.le_of_ble_eq_true rfl, Nat.le_of_ble_eq_true rfl⟩ hl.1 rfl (Nat.le_of_ble_eq_true rfl) dX8_drawn_2 (fun hk => ?_) (fun hk H locs hR hS => ?_)
  · rw [xq_ne hk] at h
    cases h
    exact fun _ q => q
  rw [xq_0 hk] at h
  refine lv_aload_n hx hb dX8_drawn_5 rfl (lv_at hl 0 rfl) ?_
  refine lv_iload_n hx hb dX8_drawn_6 rfl (lv_at hl 2 rfl) ?_
  obtain ⟨t102, hc102, h⟩ := ob h
  refine r_callXV (Qc := QX E a out.1 (some (.int out.2.1)) out.2.2) (mc0 := 3) (ms0 := 18) (As := [.int x2]) (rest := []) (r := 8) (i := 0) C hT0 (vX8_requireLooker hfl hc102) hR hS (lv0 (by decide) (by decide)) (by decide) ml_X8_199 mw_X8_requireLooker rfl ⟨Nat.le_of_ble_eq_true rfl, Nat.le_of_ble_eq_true rfl, Nat.le_of_ble_eq_true rfl, Nat.le_of_ble_eq_true rfl⟩ ⟨Nat.le_of_ble_eq_true rfl, Nat.le_of_ble_eq_true rfl⟩ hl.1 rfl (Nat.le_of_ble_eq_true rfl) dX8_drawn_7 (fun hk => ?_) (fun hk H locs hR hS => ?_)
  · rw [xq_ne hk] at h
    cases h
    exact fun _ q => q
  rw [xq_0 hk] at h
  refine lv_iload_n hx hb dX8_drawn_10 rfl (lv_at hl 3 rfl) ?_
  obtain ⟨x103, hz, h⟩ := ob h
  have Kj104 : ∀ (H : Heap) (locs : List Loc) (ls : Array Slot), Rel E a u0 H → va_S (AE E) s.heap H locs → lv_has ls 6 [(0, .ref (a 8 0)), (1, .int x1), (2, .int x2), (3, .int x3), (4, .int x4)] → W p l e { frames := 7, cells := 3, slots := 18, locals := 114 } s m args below meth c H locs 2 12 (vx_MQ below (QX E a out.1 (some (.int out.2.1)) out.2.2) (XW E a out.1 out.2.2) args s 3 18 (AE E)) (F0 m 25 ls [.int x103]) := by
    intro H locs ls hR hS hl
    clear hz
    obtain ⟨t105, hc105, h⟩ := ob h
    refine r_callXS (Qc := QX E a out.1 (some (.int out.2.1)) out.2.2) (mc0 := 3) (ms0 := 18) (As := [.int x103]) (rest := []) C hT0 (vX8_require hfl hc105) hR hS ml_X8_105 ms_X8_require rfl ⟨Nat.le_of_ble_eq_true rfl, Nat.le_of_ble_eq_true rfl, Nat.le_of_ble_eq_true rfl, Nat.le_of_ble_eq_true rfl⟩ ⟨Nat.le_of_ble_eq_true rfl, Nat.le_of_ble_eq_true rfl⟩ hl.1 rfl (Nat.le_of_ble_eq_true rfl) dX8_drawn_25 (fun hk => ?_) (fun hk H locs hR hS => ?_)
    · rw [xq_ne hk] at h
      cases h
      exact fun _ q => q
    rw [xq_0 hk] at h
    refine lv_aload_n hx hb dX8_drawn_28 rfl (lv_at hl 0 rfl) ?_
    refine lv_iload_n hx hb dX8_drawn_29 rfl (lv_at hl 2 rfl) ?_
    obtain ⟨k107, hc106, h⟩ := ob h
    have hLk107 : k107 < cntS 3 := vX8_sceneFor_lt hc106
    refine r_callV1 (As := [.int x2]) (rest := []) (r := 8) (i := 0) C (vX8_sceneFor hc106) hR hS (lv0 (by decide) (by decide)) (by decide) ml_X8_216 mw_X8_sceneFor rfl ⟨Nat.le_of_ble_eq_true rfl, Nat.le_of_ble_eq_true rfl, Nat.le_of_ble_eq_true rfl, Nat.le_of_ble_eq_true rfl⟩ hl.1 rfl (Nat.le_of_ble_eq_true rfl) dX8_drawn_30 (fun H locs hR hS => ?_)
    refine lv_astore (lv' := [(5, .ref (a 3 k107)), (0, .ref (a 8 0)), (1, .int x1), (2, .int x2), (3, .int x3), (4, .int x4)]) hx hb dX8_drawn_33 hl (by decide) rfl (fun ls hl => ?_)
    refine lv_aload hx hb dX8_drawn_35 (lv_at hl 0 rfl) ?_
    refine r_get C hR 3 k107 9 (v := .int (gI u0 3 k107 9)) (lv0 hLk107 (by decide)) (by decide) (by decide) rfl fl_X8_143 dX8_drawn_37 ?_
    refine lv_iconst (v := (-1)) hx hb dX8_drawn_40 (by decide) ?_
    refine lv_icmp_ne (tgt := 46) hx hb dX8_drawn_41 (by decide) (fun c_108 => ?_) (fun c_108 => ?_)
    · rw [if_neg c_108] at h
      refine lv_aload_n hx hb dX8_drawn_46 rfl (lv_at hl 1 rfl) ?_
      refine lv_iload_n hx hb dX8_drawn_47 rfl (lv_at hl 3 rfl) ?_
      refine lv_aload hx hb dX8_drawn_48 (lv_at hl 0 rfl) ?_
      refine r_get C hR 3 k107 11 (v := .int (gI u0 3 k107 11)) (lv0 hLk107 (by decide)) (by decide) (by decide) rfl fl_X8_140 dX8_drawn_50 ?_
      obtain ⟨u110, hc109, h⟩ := ob h
      refine r_callV0 (As := [.int x2, .int (gI u0 3 k107 11)]) (rest := []) (r := 8) (i := 0) C (vX8_lookAs hc109) hR hS (lv0 (by decide) (by decide)) (by decide) ml_X8_209 mw_X8_lookAs rfl ⟨Nat.le_of_ble_eq_true rfl, Nat.le_of_ble_eq_true rfl, Nat.le_of_ble_eq_true rfl, Nat.le_of_ble_eq_true rfl⟩ hl.1 rfl (Nat.le_of_ble_eq_true rfl) dX8_drawn_53 (fun H locs hR hS => ?_)
      refine lv_aload_n hx hb dX8_drawn_56 rfl (lv_at hl 1 rfl) ?_
      refine r_get C hR 8 0 12 (v := .ref (a 4 0)) (lv0 (by decide) (by decide)) (by decide) (by decide) rfl fl_X8_79 dX8_drawn_57 ?_
      refine lv_iload_n hx hb dX8_drawn_60 rfl (lv_at hl 4 rfl) ?_
      refine lv_iload hx hb dX8_drawn_61 (lv_at hl 5 rfl) ?_
      obtain ⟨u112, hc111, h⟩ := ob h
      refine r_callV0 (As := [.int x3, .int x4]) (rest := []) (r := 4) (i := 0) C (vX4_drawBy hc111) hR hS (lv0 (by decide) (by decide)) (by decide) ml_X8_262 mw_X4_drawBy rfl ⟨Nat.le_of_ble_eq_true rfl, Nat.le_of_ble_eq_true rfl, Nat.le_of_ble_eq_true rfl, Nat.le_of_ble_eq_true rfl⟩ hl.1 rfl (Nat.le_of_ble_eq_true rfl) dX8_drawn_63 (fun H locs hR hS => ?_)
      refine lv_aload_n hx hb dX8_drawn_66 rfl (lv_at hl 1 rfl) ?_
      refine r_get C hR 8 0 12 (v := .ref (a 4 0)) (lv0 (by decide) (by decide)) (by decide) (by decide) rfl fl_X8_79 dX8_drawn_67 ?_
      refine lv_aload_n hx hb dX8_drawn_70 rfl (lv_at hl 1 rfl) ?_
      refine r_get C hR 8 0 5 (v := .ref (a 52 0)) (lv0 (by decide) (by decide)) (by decide) (by decide) rfl fl_X8_37 dX8_drawn_71 ?_
      refine lv_iload_n hx hb dX8_drawn_74 rfl (lv_at hl 2 rfl) ?_
      obtain ⟨k113, hk113, h⟩ := ob h
      have hLk113 : k113 < cntS 1 := by have q1 := (ck_in hk113).2.2; have q2 : cntS 1 = 5 := rfl; omega
      refine r_aald C hR 52 0 1 0 4 (lv0 (by decide) (by decide)) (by decide) rfl rfl rfl (fun _ => rfl) rfl hk113 dX8_drawn_75 ?_
      refine lv_aload hx hb dX8_drawn_76 (lv_at hl 0 rfl) ?_
      refine r_get C hR 3 k107 9 (v := .int (gI u112 3 k107 9)) (lv0 hLk107 (by decide)) (by decide) (by decide) rfl fl_X8_143 dX8_drawn_78 ?_
      obtain ⟨⟨x115, u116⟩, hc114, h⟩ := ob h
      replace h := bd_x (x := x115) rfl h
      replace h := bd_x (x := u116) rfl h
      refine r_callV1 (As := [.ref (a 1 k113), .int (gI u112 3 k107 9)]) (rest := []) (r := 4) (i := 0) C (vX4_firstSeen hLk113 hc114) hR hS (lv0 (by decide) (by decide)) (by decide) ml_X8_243 mw_X4_firstSeen rfl ⟨Nat.le_of_ble_eq_true rfl, Nat.le_of_ble_eq_true rfl, Nat.le_of_ble_eq_true rfl, Nat.le_of_ble_eq_true rfl⟩ hl.1 rfl (Nat.le_of_ble_eq_true rfl) dX8_drawn_81 (fun H locs hR hS => ?_)
      cases h
      exact x_ret (e_iret C hr hR hS (Nat.le_of_ble_eq_true rfl) (Nat.le_of_ble_eq_true rfl) dX8_drawn_84)
    · rw [if_pos c_108] at h
      refine lv_iconst (v := (-1)) hx hb dX8_drawn_44 (by decide) ?_
      cases h
      exact x_ret (e_iret C hr hR hS (Nat.le_of_ble_eq_true rfl) (Nat.le_of_ble_eq_true rfl) dX8_drawn_45)
  clear h
  have h := hz
  clear hz
  refine jp_cut h (fun j117 hj117 h => ?_)
  have Kj117 : ∀  (H : Heap) (locs : List Loc) (ls : Array Slot), j117 = some x103 → Rel E a u0 H → va_S (AE E) s.heap H locs → lv_has ls 6 [(0, .ref (a 8 0)), (1, .int x1), (2, .int x2), (3, .int x3), (4, .int x4)] → W p l e { frames := 7, cells := 3, slots := 18, locals := 114 } s m args below meth c H locs 2 12 (vx_MQ below (QX E a out.1 (some (.int out.2.1)) out.2.2) (XW E a out.1 out.2.2) args s 3 18 (AE E)) (F0 m 24 ls []) := by
    intro  H locs ls h hR hS hl
    replace h := jx0 hj117 h
    refine lv_iconst (v := 0) hx hb dX8_drawn_24 (by decide) ?_
    cases h
    exact Kj104 _ _ _ hR hS (lv_sub hl [0, 1, 2, 3, 4] rfl)
  refine lv_if_lt (tgt := 24) hx hb dX8_drawn_11 (by decide) (fun c_118 => ?_) (fun c_118 => ?_)
  · rw [if_pos c_118] at h
    exact Kj117  _ _ _ h hR hS (lv_sub hl [0, 1, 2, 3, 4] rfl)
  · rw [if_neg c_118] at h
    refine lv_iload_n hx hb dX8_drawn_14 rfl (lv_at hl 3 rfl) ?_
    refine lv_bipush (v := 50) hx hb dX8_drawn_15 (by decide) ?_
    refine lv_icmp_gt (tgt := 24) hx hb dX8_drawn_17 (by decide) (fun c_119 => ?_) (fun c_119 => ?_)
    · rw [if_pos c_119] at h
      exact Kj117  _ _ _ h hR hS (lv_sub hl [0, 1, 2, 3, 4] rfl)
    · rw [if_neg c_119] at h
      refine lv_iconst (v := 1) hx hb dX8_drawn_20 (by decide) ?_
      refine lv_goto (tgt := 25) hx hb dX8_drawn_21 (by decide) ?_
      cases h
      exact Kj104 _ _ _ hR hS (lv_sub hl [0, 1, 2, 3, 4] rfl)
set_option maxHeartbeats 4000000 in
set_option maxRecDepth 100000 in
theorem vX8_change {l : Launch} (hfl : l.stackTraces = false) {E : EV} {a : Nat → Nat → Nat} {u0 : HS} {x1 : Int32} {x2 : Int32} {out : (Nat × Int32 × HS)} (h : mX8_change u0 x1 x2 = some out) : CtX l E yX8_change cX8_change 3 (some .int) 7 137 2 12 a u0 [.ref (a 8 0), .int x1, .int x2] out.1 (some (.int out.2.1)) out.2.2 := by
  refine CtX.start (by decide) (Nat.le_of_ble_eq_true rfl) ?_
  intro p e s m args below meth c ls hT0 C hr hR hS hl
  have C : Cx E p s m args meth c cX8_change 3 RX8 := C
  have hl : lv_has ls 3 [(0, .ref (a 8 0)), (1, .int x1), (2, .int x2)] := hl
  have hx := C.1
  have hb := C.2.1
  unfold mX8_change at h
  refine lv_aload_n hx hb dX8_change_0 rfl (lv_at hl 0 rfl) ?_
  refine lv_iload_n hx hb dX8_change_1 rfl (lv_at hl 1 rfl) ?_
  obtain ⟨t101, hc101, h⟩ := ob h
  refine r_callXV (Qc := QX E a out.1 (some (.int out.2.1)) out.2.2) (mc0 := 2) (ms0 := 12) (As := [.int x1]) (rest := []) (r := 8) (i := 0) C hT0 (vX8_requireLaw hfl hc101) hR hS (lv0 (by decide) (by decide)) (by decide) ml_X8_229 mw_X8_requireLaw rfl ⟨Nat.le_of_ble_eq_true rfl, Nat.le_of_ble_eq_true rfl, Nat.le_of_ble_eq_true rfl, Nat.le_of_ble_eq_true rfl⟩ ⟨Nat.le_of_ble_eq_true rfl, Nat.le_of_ble_eq_true rfl⟩ hl.1 rfl (Nat.le_of_ble_eq_true rfl) dX8_change_2 (fun hk => ?_) (fun hk H locs hR hS => ?_)
  · rw [xq_ne hk] at h
    cases h
    exact fun _ q => q
  rw [xq_0 hk] at h
  refine lv_aload_n hx hb dX8_change_5 rfl (lv_at hl 0 rfl) ?_
  refine lv_iload_n hx hb dX8_change_6 rfl (lv_at hl 2 rfl) ?_
  obtain ⟨t102, hc102, h⟩ := ob h
  refine r_callXV (Qc := QX E a out.1 (some (.int out.2.1)) out.2.2) (mc0 := 2) (ms0 := 12) (As := [.int x2]) (rest := []) (r := 8) (i := 0) C hT0 (vX8_requireLooker hfl hc102) hR hS (lv0 (by decide) (by decide)) (by decide) ml_X8_199 mw_X8_requireLooker rfl ⟨Nat.le_of_ble_eq_true rfl, Nat.le_of_ble_eq_true rfl, Nat.le_of_ble_eq_true rfl, Nat.le_of_ble_eq_true rfl⟩ ⟨Nat.le_of_ble_eq_true rfl, Nat.le_of_ble_eq_true rfl⟩ hl.1 rfl (Nat.le_of_ble_eq_true rfl) dX8_change_7 (fun hk => ?_) (fun hk H locs hR hS => ?_)
  · rw [xq_ne hk] at h
    cases h
    exact fun _ q => q
  rw [xq_0 hk] at h
  refine lv_aload_n hx hb dX8_change_10 rfl (lv_at hl 0 rfl) ?_
  refine lv_iload_n hx hb dX8_change_11 rfl (lv_at hl 1 rfl) ?_
  refine lv_iload_n hx hb dX8_change_12 rfl (lv_at hl 2 rfl) ?_
  obtain ⟨⟨x104, u105⟩, hc103, h⟩ := ob h
  replace h := bd_x (x := x104) rfl h
  replace h := bd_x (x := u105) rfl h
  refine r_callV1 (As := [.int x1, .int x2]) (rest := []) (r := 8) (i := 0) C (vX8_changeSeen hc103) hR hS (lv0 (by decide) (by decide)) (by decide) ml_X8_265 mw_X8_changeSeen rfl ⟨Nat.le_of_ble_eq_true rfl, Nat.le_of_ble_eq_true rfl, Nat.le_of_ble_eq_true rfl, Nat.le_of_ble_eq_true rfl⟩ hl.1 rfl (Nat.le_of_ble_eq_true rfl) dX8_change_13 (fun H locs hR hS => ?_)
  cases h
  exact x_ret (e_iret C hr hR hS (Nat.le_of_ble_eq_true rfl) (Nat.le_of_ble_eq_true rfl) dX8_change_16)
set_option maxHeartbeats 4000000 in
set_option maxRecDepth 100000 in
theorem vX8_yet {l : Launch} (hfl : l.stackTraces = false) {E : EV} {a : Nat → Nat → Nat} {u0 : HS} {x1 : Int32} {out : (Nat × Int32 × HS)} (h : mX8_yet u0 x1 = some out) : CtX l E yX8_yet cX8_yet 4 (some .int) 7 145 1 6 a u0 [.ref (a 8 0), .int x1] out.1 (some (.int out.2.1)) out.2.2 := by
  refine CtX.start (by decide) (Nat.le_of_ble_eq_true rfl) ?_
  intro p e s m args below meth c ls hT0 C hr hR hS hl
  have C : Cx E p s m args meth c cX8_yet 4 RX8 := C
  have hl : lv_has ls 4 [(0, .ref (a 8 0)), (1, .int x1)] := hl
  have hx := C.1
  have hb := C.2.1
  unfold mX8_yet at h
  refine lv_aload_n hx hb dX8_yet_0 rfl (lv_at hl 0 rfl) ?_
  refine lv_iload_n hx hb dX8_yet_1 rfl (lv_at hl 1 rfl) ?_
  obtain ⟨t101, hc101, h⟩ := ob h
  refine r_callXV (Qc := QX E a out.1 (some (.int out.2.1)) out.2.2) (mc0 := 1) (ms0 := 6) (As := [.int x1]) (rest := []) (r := 8) (i := 0) C hT0 (vX8_requireLaw hfl hc101) hR hS (lv0 (by decide) (by decide)) (by decide) ml_X8_229 mw_X8_requireLaw rfl ⟨Nat.le_of_ble_eq_true rfl, Nat.le_of_ble_eq_true rfl, Nat.le_of_ble_eq_true rfl, Nat.le_of_ble_eq_true rfl⟩ ⟨Nat.le_of_ble_eq_true rfl, Nat.le_of_ble_eq_true rfl⟩ hl.1 rfl (Nat.le_of_ble_eq_true rfl) dX8_yet_2 (fun hk => ?_) (fun hk H locs hR hS => ?_)
  · rw [xq_ne hk] at h
    cases h
    exact fun _ q => q
  rw [xq_0 hk] at h
  refine lv_iconst (v := 0) hx hb dX8_yet_5 (by decide) ?_
  refine lv_istore_n (lv' := [(2, .int 0), (0, .ref (a 8 0)), (1, .int x1)]) hx hb dX8_yet_6 rfl hl (by decide) rfl (fun ls hl => ?_)
  refine lv_iconst (v := 0) hx hb dX8_yet_7 (by decide) ?_
  refine lv_istore_n (lv' := [(3, .int 0), (2, .int 0), (0, .ref (a 8 0)), (1, .int x1)]) hx hb dX8_yet_8 rfl hl (by decide) rfl (fun ls hl => ?_)
  refine jp_cut h (fun w107 hw107 h => ?_)
  have Kw107 : ∀ (x105 : Int32) (u106 : HS) (H : Heap) (locs : List Loc) (ls : Array Slot), w107 x105 u106 = some out → Rel E a u106 H → va_S (AE E) s.heap H locs → lv_has ls 4 [(2, .int x105)] → W p l e { frames := 7, cells := 1, slots := 6, locals := 145 } s m args below meth c H locs 1 6 (vx_MQ below (QX E a out.1 (some (.int out.2.1)) out.2.2) (XW E a out.1 out.2.2) args s 1 6 (AE E)) (F0 m 51 ls []) := by
    intro x105 u106 H locs ls h hR hS hl
    replace h := jx2 hw107 h
    refine lv_iload_n hx hb dX8_yet_51 rfl (lv_at hl 0 rfl) ?_
    cases h
    exact x_ret (e_iret C hr hR hS (Nat.le_of_ble_eq_true rfl) (Nat.le_of_ble_eq_true rfl) dX8_yet_52)
  have LP : ∀ (fu : Nat) (x102 : Int32) (x103 : Int32) (u104 : HS) (H : Heap) (locs : List Loc) (ls : Array Slot), mX8_yet_L9 x1 w107 fu x102 x103 u104 = some out → Rel E a u104 H → va_S (AE E) s.heap H locs → lv_has ls 4 [(0, .ref (a 8 0)), (1, .int x1), (2, .int x102), (3, .int x103)] → W p l e { frames := 7, cells := 1, slots := 6, locals := 145 } s m args below meth c H locs 1 6 (vx_MQ below (QX E a out.1 (some (.int out.2.1)) out.2.2) (XW E a out.1 out.2.2) args s 1 6 (AE E)) (F0 m 9 ls []) := by
    intro fu
    induction fu with
    | zero =>
      intro x102 x103 u104 H locs ls h
      have h2 : (none : Option (Nat × Int32 × HS)) = some out := h
      cases h2
    | succ fu ih =>
      intro x102 x103 u104 H locs ls h hR hS hl
      rw [mX8_yet_L9.eq_2] at h
      refine lv_iload_n hx hb dX8_yet_9 rfl (lv_at hl 3 rfl) ?_
      refine lv_aload_n hx hb dX8_yet_10 rfl (lv_at hl 0 rfl) ?_
      refine r_get C hR 8 0 8 (v := .ref (a 0 0)) (lv0 (by decide) (by decide)) (by decide) (by decide) rfl fl_X8_56 dX8_yet_11 ?_
      refine r_get C hR 0 0 0 (v := .int (gI u104 0 0 0)) (lv0 (by decide) (by decide)) (by decide) (by decide) rfl fl_X8_268 dX8_yet_14 ?_
      refine lv_icmp_ge (tgt := 51) hx hb dX8_yet_17 (by decide) (fun c_108 => ?_) (fun c_108 => ?_)
      · rw [if_pos c_108] at h
        exact Kw107 _ _ _ _ _ h hR hS (lv_sub hl [2] rfl)
      · rw [if_neg c_108] at h
        refine lv_aload_n hx hb dX8_yet_20 rfl (lv_at hl 0 rfl) ?_
        refine lv_iload_n hx hb dX8_yet_21 rfl (lv_at hl 1 rfl) ?_
        refine lv_iload_n hx hb dX8_yet_22 rfl (lv_at hl 3 rfl) ?_
        obtain ⟨⟨x110, u111⟩, hc109, h⟩ := ob h
        replace h := bd_x (x := x110) rfl h
        replace h := bd_x (x := u111) rfl h
        refine r_callV1 (As := [.int x1, .int x103]) (rest := []) (r := 8) (i := 0) C (vX8_stateOf hc109) hR hS (lv0 (by decide) (by decide)) (by decide) ml_X8_250 mw_X8_stateOf rfl ⟨Nat.le_of_ble_eq_true rfl, Nat.le_of_ble_eq_true rfl, Nat.le_of_ble_eq_true rfl, Nat.le_of_ble_eq_true rfl⟩ hl.1 rfl (Nat.le_of_ble_eq_true rfl) dX8_yet_23 (fun H locs hR hS => ?_)
        refine lv_iconst (v := 1) hx hb dX8_yet_26 (by decide) ?_
        refine lv_iand hx hb dX8_yet_27 ?_
        refine jp_cut h (fun j114 hj114 h => ?_)
        have Kj114 : ∀ (x112 : Int32) (u113 : HS) (H : Heap) (locs : List Loc) (ls : Array Slot), j114 x112 u113 = some out → Rel E a u113 H → va_S (AE E) s.heap H locs → lv_has ls 4 [(0, .ref (a 8 0)), (1, .int x1), (2, .int x112), (3, .int x103)] → W p l e { frames := 7, cells := 1, slots := 6, locals := 145 } s m args below meth c H locs 1 6 (vx_MQ below (QX E a out.1 (some (.int out.2.1)) out.2.2) (XW E a out.1 out.2.2) args s 1 6 (AE E)) (F0 m 45 ls []) := by
          intro x112 u113 H locs ls h hR hS hl
          replace h := jx2 hj114 h
          obtain ⟨x115, ex115⟩ : ∃ z : Int32, z = x103 + 1 := ⟨_, rfl⟩
          replace h := bd_x ex115 h
          refine lv_iinc (v := x115) (lv' := [(3, .int x115), (0, .ref (a 8 0)), (1, .int x1), (2, .int x112)]) hx hb dX8_yet_45 hl (k := 3) rfl (by rw [ex115]; rfl) (by decide) rfl (fun ls hl => ?_)
          refine lv_goto (tgt := 9) hx hb dX8_yet_48 (by decide) ?_
          exact ih _ _ _ _ _ _ h hR hS (lv_sub hl [1, 2, 3, 0] rfl)
        refine lv_if_ne (tgt := 45) hx hb dX8_yet_28 (by decide) (fun c_116 => ?_) (fun c_116 => ?_)
        · rw [if_neg c_116] at h
          exact Kj114 _ _ _ _ _ h hR hS (lv_sub hl [0, 1, 2, 3] rfl)
        · rw [if_pos c_116] at h
          refine lv_aload_n hx hb dX8_yet_31 rfl (lv_at hl 0 rfl) ?_
          refine lv_iload_n hx hb dX8_yet_32 rfl (lv_at hl 3 rfl) ?_
          obtain ⟨⟨x118, u119⟩, hc117, h⟩ := ob h
          replace h := bd_x (x := x118) rfl h
          replace h := bd_x (x := u119) rfl h
          refine r_callV1 (As := [.int x103]) (rest := []) (r := 8) (i := 0) C (vX8_wasOnIt hc117) hR hS (lv0 (by decide) (by decide)) (by decide) ml_X8_271 mw_X8_wasOnIt rfl ⟨Nat.le_of_ble_eq_true rfl, Nat.le_of_ble_eq_true rfl, Nat.le_of_ble_eq_true rfl, Nat.le_of_ble_eq_true rfl⟩ hl.1 rfl (Nat.le_of_ble_eq_true rfl) dX8_yet_33 (fun H locs hR hS => ?_)
          refine lv_if_eq (tgt := 45) hx hb dX8_yet_36 (by decide) (fun c_120 => ?_) (fun c_120 => ?_)
          · rw [if_pos c_120] at h
            exact Kj114 _ _ _ _ _ h hR hS (lv_sub hl [0, 1, 2, 3] rfl)
          · rw [if_neg c_120] at h
            refine lv_iload_n hx hb dX8_yet_39 rfl (lv_at hl 2 rfl) ?_
            refine lv_iconst (v := 1) hx hb dX8_yet_40 (by decide) ?_
            refine lv_iload_n hx hb dX8_yet_41 rfl (lv_at hl 3 rfl) ?_
            refine lv_ishl hx hb dX8_yet_42 ?_
            refine lv_ior hx hb dX8_yet_43 ?_
            refine lv_topi (fun x121 ex121 => ?_)
            replace h := bd_x ex121 h
            refine lv_istore_n (lv' := [(2, .int x121), (0, .ref (a 8 0)), (1, .int x1), (3, .int x103)]) hx hb dX8_yet_44 rfl hl (by decide) rfl (fun ls hl => ?_)
            exact Kj114 _ _ _ _ _ h hR hS (lv_sub hl [1, 2, 0, 3] rfl)
  exact LP FU _ _ _ _ _ _ h hR hS (lv_sub hl [2, 3, 1, 0] rfl)
set_option maxHeartbeats 4000000 in
set_option maxRecDepth 100000 in
theorem vX8_least {l : Launch} (hfl : l.stackTraces = false) {E : EV} {a : Nat → Nat → Nat} {u0 : HS} {x1 : Int32} {x2 : Int32} {x3 : Int32} {out : (Nat × Int32 × HS)} (h : mX8_least u0 x1 x2 x3 = some out) : CtX l E yX8_least cX8_least 7 (some .int) 7 114 3 18 a u0 [.ref (a 8 0), .int x1, .int x2, .int x3] out.1 (some (.int out.2.1)) out.2.2 := by
  refine CtX.start (by decide) (Nat.le_of_ble_eq_true rfl) ?_
  intro p e s m args below meth c ls hT0 C hr hR hS hl
  have C : Cx E p s m args meth c cX8_least 7 RX8 := C
  have hl : lv_has ls 7 [(0, .ref (a 8 0)), (1, .int x1), (2, .int x2), (3, .int x3)] := hl
  have hx := C.1
  have hb := C.2.1
  unfold mX8_least at h
  refine lv_aload_n hx hb dX8_least_0 rfl (lv_at hl 0 rfl) ?_
  refine lv_iload_n hx hb dX8_least_1 rfl (lv_at hl 1 rfl) ?_
  obtain ⟨t101, hc101, h⟩ := ob h
  refine r_callXV (Qc := QX E a out.1 (some (.int out.2.1)) out.2.2) (mc0 := 3) (ms0 := 18) (As := [.int x1]) (rest := []) (r := 8) (i := 0) C hT0 (vX8_requireLaw hfl hc101) hR hS (lv0 (by decide) (by decide)) (by decide) ml_X8_229 mw_X8_requireLaw rfl ⟨Nat.le_of_ble_eq_true rfl, Nat.le_of_ble_eq_true rfl, Nat.le_of_ble_eq_true rfl, Nat.le_of_ble_eq_true rfl⟩ ⟨Nat.le_of_ble_eq_true rfl, Nat.le_of_ble_eq_true rfl⟩ hl.1 rfl (Nat.le_of_ble_eq_true rfl) dX8_least_2 (fun hk => ?_) (fun hk H locs hR hS => ?_)
  · rw [xq_ne hk] at h
    cases h
    exact fun _ q => q
  rw [xq_0 hk] at h
  refine lv_aload_n hx hb dX8_least_5 rfl (lv_at hl 0 rfl) ?_
  refine lv_iload_n hx hb dX8_least_6 rfl (lv_at hl 2 rfl) ?_
  obtain ⟨t102, hc102, h⟩ := ob h
  refine r_callXV (Qc := QX E a out.1 (some (.int out.2.1)) out.2.2) (mc0 := 3) (ms0 := 18) (As := [.int x2]) (rest := []) (r := 8) (i := 0) C hT0 (vX8_requireLooker hfl hc102) hR hS (lv0 (by decide) (by decide)) (by decide) ml_X8_199 mw_X8_requireLooker rfl ⟨Nat.le_of_ble_eq_true rfl, Nat.le_of_ble_eq_true rfl, Nat.le_of_ble_eq_true rfl, Nat.le_of_ble_eq_true rfl⟩ ⟨Nat.le_of_ble_eq_true rfl, Nat.le_of_ble_eq_true rfl⟩ hl.1 rfl (Nat.le_of_ble_eq_true rfl) dX8_least_7 (fun hk => ?_) (fun hk H locs hR hS => ?_)
  · rw [xq_ne hk] at h
    cases h
    exact fun _ q => q
  rw [xq_0 hk] at h
  refine lv_iload_n hx hb dX8_least_10 rfl (lv_at hl 3 rfl) ?_
  obtain ⟨x103, hz, h⟩ := ob h
  have Kj104 : ∀ (H : Heap) (locs : List Loc) (ls : Array Slot), Rel E a u0 H → va_S (AE E) s.heap H locs → lv_has ls 7 [(0, .ref (a 8 0)), (1, .int x1), (2, .int x2), (3, .int x3)] → W p l e { frames := 7, cells := 3, slots := 18, locals := 114 } s m args below meth c H locs 2 12 (vx_MQ below (QX E a out.1 (some (.int out.2.1)) out.2.2) (XW E a out.1 out.2.2) args s 3 18 (AE E)) (F0 m 24 ls [.int x103]) := by
    intro H locs ls hR hS hl
    clear hz
    obtain ⟨t105, hc105, h⟩ := ob h
    refine r_callXS (Qc := QX E a out.1 (some (.int out.2.1)) out.2.2) (mc0 := 3) (ms0 := 18) (As := [.int x103]) (rest := []) C hT0 (vX8_require hfl hc105) hR hS ml_X8_105 ms_X8_require rfl ⟨Nat.le_of_ble_eq_true rfl, Nat.le_of_ble_eq_true rfl, Nat.le_of_ble_eq_true rfl, Nat.le_of_ble_eq_true rfl⟩ ⟨Nat.le_of_ble_eq_true rfl, Nat.le_of_ble_eq_true rfl⟩ hl.1 rfl (Nat.le_of_ble_eq_true rfl) dX8_least_24 (fun hk => ?_) (fun hk H locs hR hS => ?_)
    · rw [xq_ne hk] at h
      cases h
      exact fun _ q => q
    rw [xq_0 hk] at h
    refine lv_aload_n hx hb dX8_least_27 rfl (lv_at hl 0 rfl) ?_
    refine lv_iload_n hx hb dX8_least_28 rfl (lv_at hl 2 rfl) ?_
    obtain ⟨k107, hc106, h⟩ := ob h
    have hLk107 : k107 < cntS 3 := vX8_sceneFor_lt hc106
    refine r_callV1 (As := [.int x2]) (rest := []) (r := 8) (i := 0) C (vX8_sceneFor hc106) hR hS (lv0 (by decide) (by decide)) (by decide) ml_X8_216 mw_X8_sceneFor rfl ⟨Nat.le_of_ble_eq_true rfl, Nat.le_of_ble_eq_true rfl, Nat.le_of_ble_eq_true rfl, Nat.le_of_ble_eq_true rfl⟩ hl.1 rfl (Nat.le_of_ble_eq_true rfl) dX8_least_29 (fun H locs hR hS => ?_)
    refine lv_astore (lv' := [(4, .ref (a 3 k107)), (0, .ref (a 8 0)), (1, .int x1), (2, .int x2), (3, .int x3)]) hx hb dX8_least_32 hl (by decide) rfl (fun ls hl => ?_)
    refine lv_aload hx hb dX8_least_34 (lv_at hl 0 rfl) ?_
    refine r_get C hR 3 k107 9 (v := .int (gI u0 3 k107 9)) (lv0 hLk107 (by decide)) (by decide) (by decide) rfl fl_X8_143 dX8_least_36 ?_
    refine lv_iconst (v := (-1)) hx hb dX8_least_39 (by decide) ?_
    refine lv_icmp_ne (tgt := 45) hx hb dX8_least_40 (by decide) (fun c_108 => ?_) (fun c_108 => ?_)
    · rw [if_neg c_108] at h
      refine lv_aload_n hx hb dX8_least_45 rfl (lv_at hl 1 rfl) ?_
      refine lv_iload_n hx hb dX8_least_46 rfl (lv_at hl 3 rfl) ?_
      refine lv_aload hx hb dX8_least_47 (lv_at hl 0 rfl) ?_
      refine r_get C hR 3 k107 11 (v := .int (gI u0 3 k107 11)) (lv0 hLk107 (by decide)) (by decide) (by decide) rfl fl_X8_140 dX8_least_49 ?_
      obtain ⟨u110, hc109, h⟩ := ob h
      refine r_callV0 (As := [.int x2, .int (gI u0 3 k107 11)]) (rest := []) (r := 8) (i := 0) C (vX8_lookAs hc109) hR hS (lv0 (by decide) (by decide)) (by decide) ml_X8_209 mw_X8_lookAs rfl ⟨Nat.le_of_ble_eq_true rfl, Nat.le_of_ble_eq_true rfl, Nat.le_of_ble_eq_true rfl, Nat.le_of_ble_eq_true rfl⟩ hl.1 rfl (Nat.le_of_ble_eq_true rfl) dX8_least_52 (fun H locs hR hS => ?_)
      refine lv_iload_n hx hb dX8_least_55 rfl (lv_at hl 4 rfl) ?_
      refine lv_iconst (v := 1) hx hb dX8_least_56 (by decide) ?_
      obtain ⟨x111, hz, h⟩ := ob h
      have Kj112 : ∀ (H : Heap) (locs : List Loc) (ls : Array Slot), Rel E a u110 H → va_S (AE E) s.heap H locs → lv_has ls 7 [(0, .ref (a 8 0)), (1, .int x1), (3, .int x3), (4, .ref (a 3 k107))] → W p l e { frames := 7, cells := 3, slots := 18, locals := 114 } s m args below meth c H locs 3 18 (vx_MQ below (QX E a out.1 (some (.int out.2.1)) out.2.2) (XW E a out.1 out.2.2) args s 3 18 (AE E)) (F0 m 67 ls [.int x111]) := by
        intro H locs ls hR hS hl
        clear hz
        refine lv_istore (lv' := [(5, .int x111), (0, .ref (a 8 0)), (1, .int x1), (3, .int x3), (4, .ref (a 3 k107))]) hx hb dX8_least_67 hl (by decide) rfl (fun ls hl => ?_)
        refine lv_iload_n hx hb dX8_least_69 rfl (lv_at hl 3 rfl) ?_
        refine lv_iconst (v := 1) hx hb dX8_least_70 (by decide) ?_
        obtain ⟨x113, hz, h⟩ := ob h
        have Kj114 : ∀ (H : Heap) (locs : List Loc) (ls : Array Slot), Rel E a u110 H → va_S (AE E) s.heap H locs → lv_has ls 7 [(0, .ref (a 8 0)), (1, .int x1), (3, .int x3), (4, .ref (a 3 k107)), (5, .int x111)] → W p l e { frames := 7, cells := 3, slots := 18, locals := 114 } s m args below meth c H locs 3 18 (vx_MQ below (QX E a out.1 (some (.int out.2.1)) out.2.2) (XW E a out.1 out.2.2) args s 3 18 (AE E)) (F0 m 79 ls [.int x113]) := by
          intro H locs ls hR hS hl
          clear hz
          refine lv_istore (lv' := [(6, .int x113), (0, .ref (a 8 0)), (1, .int x1), (3, .int x3), (4, .ref (a 3 k107)), (5, .int x111)]) hx hb dX8_least_79 hl (by decide) rfl (fun ls hl => ?_)
          refine jp_cut h (fun w118 hw118 h => ?_)
          have Kw118 : ∀ (u117 : HS) (H : Heap) (locs : List Loc) (ls : Array Slot), w118 u117 = some out → Rel E a u117 H → va_S (AE E) s.heap H locs → lv_has ls 7 [] → W p l e { frames := 7, cells := 3, slots := 18, locals := 114 } s m args below meth c H locs 3 18 (vx_MQ below (QX E a out.1 (some (.int out.2.1)) out.2.2) (XW E a out.1 out.2.2) args s 3 18 (AE E)) (F0 m 129 ls []) := by
            intro u117 H locs ls h hR hS hl
            replace h := jx1 hw118 h
            refine lv_iconst (v := (-1)) hx hb dX8_least_129 (by decide) ?_
            cases h
            exact x_ret (e_iret C hr hR hS (Nat.le_of_ble_eq_true rfl) (Nat.le_of_ble_eq_true rfl) dX8_least_130)
          have LP : ∀ (fu : Nat) (x115 : Int32) (u116 : HS) (H : Heap) (locs : List Loc) (ls : Array Slot), mX8_least_L81 x111 x3 x1 k107 w118 fu x115 u116 = some out → Rel E a u116 H → va_S (AE E) s.heap H locs → lv_has ls 7 [(0, .ref (a 8 0)), (1, .int x1), (3, .int x3), (4, .ref (a 3 k107)), (5, .int x111), (6, .int x115)] → W p l e { frames := 7, cells := 3, slots := 18, locals := 114 } s m args below meth c H locs 3 18 (vx_MQ below (QX E a out.1 (some (.int out.2.1)) out.2.2) (XW E a out.1 out.2.2) args s 3 18 (AE E)) (F0 m 81 ls []) := by
            intro fu
            induction fu with
            | zero =>
              intro x115 u116 H locs ls h
              have h2 : (none : Option (Nat × Int32 × HS)) = some out := h
              cases h2
            | succ fu ih =>
              intro x115 u116 H locs ls h hR hS hl
              rw [mX8_least_L81.eq_2] at h
              refine lv_iload hx hb dX8_least_81 (lv_at hl 5 rfl) ?_
              refine lv_iload hx hb dX8_least_83 (lv_at hl 4 rfl) ?_
              refine lv_icmp_gt (tgt := 129) hx hb dX8_least_85 (by decide) (fun c_119 => ?_) (fun c_119 => ?_)
              · rw [if_pos c_119] at h
                exact Kw118 _ _ _ _ h hR hS (lv_sub hl [] rfl)
              · rw [if_neg c_119] at h
                refine lv_aload_n hx hb dX8_least_88 rfl (lv_at hl 0 rfl) ?_
                refine r_get C hR 8 0 11 (v := .ref (a 7 0)) (lv0 (by decide) (by decide)) (by decide) (by decide) rfl fl_X8_70 dX8_least_89 ?_
                refine lv_iload_n hx hb dX8_least_92 rfl (lv_at hl 2 rfl) ?_
                refine lv_iload hx hb dX8_least_93 (lv_at hl 5 rfl) ?_
                obtain ⟨u121, hc120, h⟩ := ob h
                refine r_callV0 (As := [.int x3, .int x115]) (rest := []) (r := 7) (i := 0) C (vX7_bend hc120) hR hS (lv0 (by decide) (by decide)) (by decide) ml_X8_274 mw_X7_bend rfl ⟨Nat.le_of_ble_eq_true rfl, Nat.le_of_ble_eq_true rfl, Nat.le_of_ble_eq_true rfl, Nat.le_of_ble_eq_true rfl⟩ hl.1 rfl (Nat.le_of_ble_eq_true rfl) dX8_least_95 (fun H locs hR hS => ?_)
                refine lv_aload_n hx hb dX8_least_98 rfl (lv_at hl 0 rfl) ?_
                refine r_get C hR 8 0 12 (v := .ref (a 4 0)) (lv0 (by decide) (by decide)) (by decide) (by decide) rfl fl_X8_79 dX8_least_99 ?_
                refine lv_aload_n hx hb dX8_least_102 rfl (lv_at hl 0 rfl) ?_
                refine r_get C hR 8 0 5 (v := .ref (a 52 0)) (lv0 (by decide) (by decide)) (by decide) (by decide) rfl fl_X8_37 dX8_least_103 ?_
                refine lv_iload_n hx hb dX8_least_106 rfl (lv_at hl 1 rfl) ?_
                obtain ⟨k122, hk122, h⟩ := ob h
                have hLk122 : k122 < cntS 1 := by have q1 := (ck_in hk122).2.2; have q2 : cntS 1 = 5 := rfl; omega
                refine r_aald C hR 52 0 1 0 4 (lv0 (by decide) (by decide)) (by decide) rfl rfl rfl (fun _ => rfl) rfl hk122 dX8_least_107 ?_
                refine lv_aload hx hb dX8_least_108 (lv_at hl 3 rfl) ?_
                refine r_get C hR 3 k107 9 (v := .int (gI u121 3 k107 9)) (lv0 hLk107 (by decide)) (by decide) (by decide) rfl fl_X8_143 dX8_least_110 ?_
                obtain ⟨⟨x124, u125⟩, hc123, h⟩ := ob h
                replace h := bd_x (x := x124) rfl h
                replace h := bd_x (x := u125) rfl h
                refine r_callV1 (As := [.ref (a 1 k122), .int (gI u121 3 k107 9)]) (rest := []) (r := 4) (i := 0) C (vX4_firstSeen hLk122 hc123) hR hS (lv0 (by decide) (by decide)) (by decide) ml_X8_243 mw_X4_firstSeen rfl ⟨Nat.le_of_ble_eq_true rfl, Nat.le_of_ble_eq_true rfl, Nat.le_of_ble_eq_true rfl, Nat.le_of_ble_eq_true rfl⟩ hl.1 rfl (Nat.le_of_ble_eq_true rfl) dX8_least_113 (fun H locs hR hS => ?_)
                refine lv_iconst (v := (-1)) hx hb dX8_least_116 (by decide) ?_
                refine lv_icmp_eq (tgt := 123) hx hb dX8_least_117 (by decide) (fun c_126 => ?_) (fun c_126 => ?_)
                · rw [if_pos c_126] at h
                  obtain ⟨x127, ex127⟩ : ∃ z : Int32, z = x115 + 1 := ⟨_, rfl⟩
                  replace h := bd_x ex127 h
                  refine lv_iinc (v := x127) (lv' := [(6, .int x127), (0, .ref (a 8 0)), (1, .int x1), (3, .int x3), (4, .ref (a 3 k107)), (5, .int x111)]) hx hb dX8_least_123 hl (k := 5) rfl (by rw [ex127]; rfl) (by decide) rfl (fun ls hl => ?_)
                  refine lv_goto (tgt := 81) hx hb dX8_least_126 (by decide) ?_
                  exact ih _ _ _ _ _ h hR hS (lv_sub hl [1, 2, 3, 4, 5, 0] rfl)
                · rw [if_neg c_126] at h
                  refine lv_iload hx hb dX8_least_120 (lv_at hl 5 rfl) ?_
                  cases h
                  exact x_ret (e_iret C hr hR hS (Nat.le_of_ble_eq_true rfl) (Nat.le_of_ble_eq_true rfl) dX8_least_122)
          exact LP FU _ _ _ _ _ h hR hS (lv_sub hl [1, 2, 3, 4, 5, 0] rfl)
        clear h
        have h := hz
        clear hz
        refine lv_icmp_ne (tgt := 78) hx hb dX8_least_71 (by decide) (fun c_128 => ?_) (fun c_128 => ?_)
        · rw [if_neg c_128] at h
          refine lv_iconst (v := 1) hx hb dX8_least_78 (by decide) ?_
          cases h
          exact Kj114 _ _ _ hR hS (lv_sub hl [1, 2, 3, 4, 0] rfl)
        · rw [if_pos c_128] at h
          refine lv_iconst (v := 0) hx hb dX8_least_74 (by decide) ?_
          refine lv_goto (tgt := 79) hx hb dX8_least_75 (by decide) ?_
          cases h
          exact Kj114 _ _ _ hR hS (lv_sub hl [1, 2, 3, 4, 0] rfl)
      clear h
      have h := hz
      clear hz
      refine lv_icmp_ne (tgt := 65) hx hb dX8_least_57 (by decide) (fun c_129 => ?_) (fun c_129 => ?_)
      · rw [if_neg c_129] at h
        refine lv_bipush (v := 9) hx hb dX8_least_65 (by decide) ?_
        cases h
        exact Kj112 _ _ _ hR hS (lv_sub hl [1, 2, 4, 0] rfl)
      · rw [if_pos c_129] at h
        refine lv_bipush (v := 20) hx hb dX8_least_60 (by decide) ?_
        refine lv_goto (tgt := 67) hx hb dX8_least_62 (by decide) ?_
        cases h
        exact Kj112 _ _ _ hR hS (lv_sub hl [1, 2, 4, 0] rfl)
    · rw [if_pos c_108] at h
      refine lv_iconst (v := (-1)) hx hb dX8_least_43 (by decide) ?_
      cases h
      exact x_ret (e_iret C hr hR hS (Nat.le_of_ble_eq_true rfl) (Nat.le_of_ble_eq_true rfl) dX8_least_44)
  clear h
  have h := hz
  clear hz
  refine jp_cut h (fun j130 hj130 h => ?_)
  have Kj130 : ∀  (H : Heap) (locs : List Loc) (ls : Array Slot), j130 = some x103 → Rel E a u0 H → va_S (AE E) s.heap H locs → lv_has ls 7 [(0, .ref (a 8 0)), (1, .int x1), (2, .int x2), (3, .int x3)] → W p l e { frames := 7, cells := 3, slots := 18, locals := 114 } s m args below meth c H locs 2 12 (vx_MQ below (QX E a out.1 (some (.int out.2.1)) out.2.2) (XW E a out.1 out.2.2) args s 3 18 (AE E)) (F0 m 23 ls []) := by
    intro  H locs ls h hR hS hl
    replace h := jx0 hj130 h
    refine lv_iconst (v := 0) hx hb dX8_least_23 (by decide) ?_
    cases h
    exact Kj104 _ _ _ hR hS (lv_sub hl [0, 1, 2, 3] rfl)
  refine lv_if_lt (tgt := 23) hx hb dX8_least_11 (by decide) (fun c_131 => ?_) (fun c_131 => ?_)
  · rw [if_pos c_131] at h
    exact Kj130  _ _ _ h hR hS (lv_sub hl [0, 1, 2, 3] rfl)
  · rw [if_neg c_131] at h
    refine lv_iload_n hx hb dX8_least_14 rfl (lv_at hl 3 rfl) ?_
    refine lv_iconst (v := 2) hx hb dX8_least_15 (by decide) ?_
    refine lv_icmp_gt (tgt := 23) hx hb dX8_least_16 (by decide) (fun c_132 => ?_) (fun c_132 => ?_)
    · rw [if_pos c_132] at h
      exact Kj130  _ _ _ h hR hS (lv_sub hl [0, 1, 2, 3] rfl)
    · rw [if_neg c_132] at h
      refine lv_iconst (v := 1) hx hb dX8_least_19 (by decide) ?_
      refine lv_goto (tgt := 24) hx hb dX8_least_20 (by decide) ?_
      cases h
      exact Kj104 _ _ _ hR hS (lv_sub hl [0, 1, 2, 3] rfl)
set_option maxHeartbeats 4000000 in
set_option maxRecDepth 100000 in
theorem vX8_answer {l : Launch} (hfl : l.stackTraces = false) {E : EV} {a : Nat → Nat → Nat} {u0 : HS} {x1 : Int32} {x2 : Int32} {x3 : Int32} {out : (Nat × Int32 × HS)} (h : mX8_answer u0 x1 x2 x3 = some out) : CtX l E yX8_answer cX8_answer 5 (some .int) 7 111 2 12 a u0 [.ref (a 8 0), .int x1, .int x2, .int x3] out.1 (some (.int out.2.1)) out.2.2 := by
  refine CtX.start (by decide) (Nat.le_of_ble_eq_true rfl) ?_
  intro p e s m args below meth c ls hT0 C hr hR hS hl
  have C : Cx E p s m args meth c cX8_answer 5 RX8 := C
  have hl : lv_has ls 5 [(0, .ref (a 8 0)), (1, .int x1), (2, .int x2), (3, .int x3)] := hl
  have hx := C.1
  have hb := C.2.1
  unfold mX8_answer at h
  refine lv_aload_n hx hb dX8_answer_0 rfl (lv_at hl 0 rfl) ?_
  refine lv_iload_n hx hb dX8_answer_1 rfl (lv_at hl 1 rfl) ?_
  obtain ⟨t101, hc101, h⟩ := ob h
  refine r_callXV (Qc := QX E a out.1 (some (.int out.2.1)) out.2.2) (mc0 := 2) (ms0 := 12) (As := [.int x1]) (rest := []) (r := 8) (i := 0) C hT0 (vX8_requireLooker hfl hc101) hR hS (lv0 (by decide) (by decide)) (by decide) ml_X8_199 mw_X8_requireLooker rfl ⟨Nat.le_of_ble_eq_true rfl, Nat.le_of_ble_eq_true rfl, Nat.le_of_ble_eq_true rfl, Nat.le_of_ble_eq_true rfl⟩ ⟨Nat.le_of_ble_eq_true rfl, Nat.le_of_ble_eq_true rfl⟩ hl.1 rfl (Nat.le_of_ble_eq_true rfl) dX8_answer_2 (fun hk => ?_) (fun hk H locs hR hS => ?_)
  · rw [xq_ne hk] at h
    cases h
    exact fun _ q => q
  rw [xq_0 hk] at h
  refine lv_iload_n hx hb dX8_answer_5 rfl (lv_at hl 2 rfl) ?_
  obtain ⟨x103, hc102, h⟩ := ob h
  refine r_callS1 (As := [.int x2]) (rest := []) C (vX8_isAsking hc102) hR hS ml_X8_247 ms_X8_isAsking rfl ⟨Nat.le_of_ble_eq_true rfl, Nat.le_of_ble_eq_true rfl, Nat.le_of_ble_eq_true rfl, Nat.le_of_ble_eq_true rfl⟩ hl.1 rfl (Nat.le_of_ble_eq_true rfl) dX8_answer_6 (fun H locs hR hS => ?_)
  obtain ⟨t104, hc104, h⟩ := ob h
  refine r_callXS (Qc := QX E a out.1 (some (.int out.2.1)) out.2.2) (mc0 := 2) (ms0 := 12) (As := [.int x103]) (rest := []) C hT0 (vX8_require hfl hc104) hR hS ml_X8_105 ms_X8_require rfl ⟨Nat.le_of_ble_eq_true rfl, Nat.le_of_ble_eq_true rfl, Nat.le_of_ble_eq_true rfl, Nat.le_of_ble_eq_true rfl⟩ ⟨Nat.le_of_ble_eq_true rfl, Nat.le_of_ble_eq_true rfl⟩ hl.1 rfl (Nat.le_of_ble_eq_true rfl) dX8_answer_9 (fun hk => ?_) (fun hk H locs hR hS => ?_)
  · rw [xq_ne hk] at h
    cases h
    exact fun _ q => q
  rw [xq_0 hk] at h
  refine lv_aload_n hx hb dX8_answer_12 rfl (lv_at hl 0 rfl) ?_
  refine r_get C hR 8 0 8 (v := .ref (a 0 0)) (lv0 (by decide) (by decide)) (by decide) (by decide) rfl fl_X8_56 dX8_answer_13 ?_
  refine lv_iload_n hx hb dX8_answer_16 rfl (lv_at hl 1 rfl) ?_
  refine lv_iload_n hx hb dX8_answer_17 rfl (lv_at hl 2 rfl) ?_
  obtain ⟨x106, hc105, h⟩ := ob h
  refine r_callV1 (As := [.int x1, .int x2]) (rest := []) (r := 0) (i := 0) C (vX0_reply (by decide) hc105) hR hS (lv0 (by decide) (by decide)) (by decide) ml_X8_277 mw_X0_reply rfl ⟨Nat.le_of_ble_eq_true rfl, Nat.le_of_ble_eq_true rfl, Nat.le_of_ble_eq_true rfl, Nat.le_of_ble_eq_true rfl⟩ hl.1 rfl (Nat.le_of_ble_eq_true rfl) dX8_answer_18 (fun H locs hR hS => ?_)
  refine lv_istore (lv' := [(4, .int x106), (0, .ref (a 8 0)), (1, .int x1), (2, .int x2), (3, .int x3)]) hx hb dX8_answer_21 hl (by decide) rfl (fun ls hl => ?_)
  refine lv_aload_n hx hb dX8_answer_23 rfl (lv_at hl 1 rfl) ?_
  refine r_get C hR 8 0 8 (v := .ref (a 0 0)) (lv0 (by decide) (by decide)) (by decide) (by decide) rfl fl_X8_56 dX8_answer_24 ?_
  refine r_get C hR 0 0 4 (v := .ref (a 22 0)) (lv0 (by decide) (by decide)) (by decide) (by decide) rfl fl_X8_280 dX8_answer_27 ?_
  refine lv_iload_n hx hb dX8_answer_30 rfl (lv_at hl 2 rfl) ?_
  refine lv_iconst (v := 3) hx hb dX8_answer_31 (by decide) ?_
  refine lv_imul hx hb dX8_answer_32 ?_
  refine lv_iload_n hx hb dX8_answer_33 rfl (lv_at hl 3 rfl) ?_
  refine lv_iadd hx hb dX8_answer_34 ?_
  refine lv_iload_n hx hb dX8_answer_35 rfl (lv_at hl 4 rfl) ?_
  obtain ⟨x107, hz, h⟩ := ob h
  have Kj108 : ∀ (H : Heap) (locs : List Loc) (ls : Array Slot), Rel E a u0 H → va_S (AE E) s.heap H locs → lv_has ls 5 [(4, .int x106)] → W p l e { frames := 7, cells := 2, slots := 12, locals := 111 } s m args below meth c H locs 2 12 (vx_MQ below (QX E a out.1 (some (.int out.2.1)) out.2.2) (XW E a out.1 out.2.2) args s 2 12 (AE E)) (F0 m 44 ls [.int x107, .int ((x1 * 3) + x2), .ref (a 22 0)]) := by
    intro H locs ls hR hS hl
    clear hz
    obtain ⟨k109, hk109, h⟩ := ob h
    refine r_ast C hR hS 22 0 (lv0 (by decide) (by decide)) (by decide) rfl (fun _ _ => rfl) rfl hk109 dX8_answer_44 (fun H locs hR hS => ?_)
    obtain ⟨u110, eu110⟩ : ∃ z : HS, z = wI u0 22 0 k109 x107 := ⟨_, rfl⟩
    rw [← eu110] at hR
    replace h := bd_x eu110 h
    clear eu110
    refine lv_iload hx hb dX8_answer_45 (lv_at hl 0 rfl) ?_
    cases h
    exact x_ret (e_iret C hr hR hS (Nat.le_of_ble_eq_true rfl) (Nat.le_of_ble_eq_true rfl) dX8_answer_47)
  clear h
  have h := hz
  clear hz
  refine lv_if_eq (tgt := 43) hx hb dX8_answer_36 (by decide) (fun c_111 => ?_) (fun c_111 => ?_)
  · rw [if_pos c_111] at h
    refine lv_iconst (v := 0) hx hb dX8_answer_43 (by decide) ?_
    cases h
    exact Kj108 _ _ _ hR hS (lv_sub hl [0] rfl)
  · rw [if_neg c_111] at h
    refine lv_iconst (v := 1) hx hb dX8_answer_39 (by decide) ?_
    refine lv_goto (tgt := 44) hx hb dX8_answer_40 (by decide) ?_
    cases h
    exact Kj108 _ _ _ hR hS (lv_sub hl [0] rfl)
set_option maxHeartbeats 4000000 in
set_option maxRecDepth 100000 in
theorem vX8_counted {l : Launch} (hfl : l.stackTraces = false) {E : EV} {a : Nat → Nat → Nat} {u0 : HS} {x1 : Int32} {x2 : Int32} {out : (Nat × Int32 × HS)} (h : mX8_counted u0 x1 x2 = some out) : CtX l E yX8_counted cX8_counted 4 (some .int) 7 111 2 12 a u0 [.ref (a 8 0), .int x1, .int x2] out.1 (some (.int out.2.1)) out.2.2 := by
  refine CtX.start (by decide) (Nat.le_of_ble_eq_true rfl) ?_
  intro p e s m args below meth c ls hT0 C hr hR hS hl
  have C : Cx E p s m args meth c cX8_counted 4 RX8 := C
  have hl : lv_has ls 4 [(0, .ref (a 8 0)), (1, .int x1), (2, .int x2)] := hl
  have hx := C.1
  have hb := C.2.1
  unfold mX8_counted at h
  refine lv_aload_n hx hb dX8_counted_0 rfl (lv_at hl 0 rfl) ?_
  refine lv_iload_n hx hb dX8_counted_1 rfl (lv_at hl 1 rfl) ?_
  obtain ⟨t101, hc101, h⟩ := ob h
  refine r_callXV (Qc := QX E a out.1 (some (.int out.2.1)) out.2.2) (mc0 := 2) (ms0 := 12) (As := [.int x1]) (rest := []) (r := 8) (i := 0) C hT0 (vX8_requireLooker hfl hc101) hR hS (lv0 (by decide) (by decide)) (by decide) ml_X8_199 mw_X8_requireLooker rfl ⟨Nat.le_of_ble_eq_true rfl, Nat.le_of_ble_eq_true rfl, Nat.le_of_ble_eq_true rfl, Nat.le_of_ble_eq_true rfl⟩ ⟨Nat.le_of_ble_eq_true rfl, Nat.le_of_ble_eq_true rfl⟩ hl.1 rfl (Nat.le_of_ble_eq_true rfl) dX8_counted_2 (fun hk => ?_) (fun hk H locs hR hS => ?_)
  · rw [xq_ne hk] at h
    cases h
    exact fun _ q => q
  rw [xq_0 hk] at h
  refine lv_iload_n hx hb dX8_counted_5 rfl (lv_at hl 2 rfl) ?_
  obtain ⟨x102, hz, h⟩ := ob h
  have Kj103 : ∀ (H : Heap) (locs : List Loc) (ls : Array Slot), Rel E a u0 H → va_S (AE E) s.heap H locs → lv_has ls 4 [(0, .ref (a 8 0)), (1, .int x1), (2, .int x2)] → W p l e { frames := 7, cells := 2, slots := 12, locals := 111 } s m args below meth c H locs 1 6 (vx_MQ below (QX E a out.1 (some (.int out.2.1)) out.2.2) (XW E a out.1 out.2.2) args s 2 12 (AE E)) (F0 m 21 ls [.int x102]) := by
    intro H locs ls hR hS hl
    clear hz
    obtain ⟨t104, hc104, h⟩ := ob h
    refine r_callXS (Qc := QX E a out.1 (some (.int out.2.1)) out.2.2) (mc0 := 2) (ms0 := 12) (As := [.int x102]) (rest := []) C hT0 (vX8_require hfl hc104) hR hS ml_X8_105 ms_X8_require rfl ⟨Nat.le_of_ble_eq_true rfl, Nat.le_of_ble_eq_true rfl, Nat.le_of_ble_eq_true rfl, Nat.le_of_ble_eq_true rfl⟩ ⟨Nat.le_of_ble_eq_true rfl, Nat.le_of_ble_eq_true rfl⟩ hl.1 rfl (Nat.le_of_ble_eq_true rfl) dX8_counted_21 (fun hk => ?_) (fun hk H locs hR hS => ?_)
    · rw [xq_ne hk] at h
      cases h
      exact fun _ q => q
    rw [xq_0 hk] at h
    refine lv_aload_n hx hb dX8_counted_24 rfl (lv_at hl 0 rfl) ?_
    refine r_get C hR 8 0 8 (v := .ref (a 0 0)) (lv0 (by decide) (by decide)) (by decide) (by decide) rfl fl_X8_56 dX8_counted_25 ?_
    refine r_get C hR 0 0 5 (v := .ref (a 23 0)) (lv0 (by decide) (by decide)) (by decide) (by decide) rfl fl_X8_283 dX8_counted_28 ?_
    refine lv_iload_n hx hb dX8_counted_31 rfl (lv_at hl 1 rfl) ?_
    obtain ⟨k105, hk105, h⟩ := ob h
    refine r_ald C hR 23 0 (lv0 (by decide) (by decide)) (by decide) rfl (fun _ => rfl) rfl hk105 dX8_counted_32 ?_
    refine lv_topi (fun x106 ex106 => ?_)
    replace h := bd_x ex106 h
    refine lv_istore_n (lv' := [(3, .int x106), (0, .ref (a 8 0)), (1, .int x1), (2, .int x2)]) hx hb dX8_counted_33 rfl hl (by decide) rfl (fun ls hl => ?_)
    refine lv_aload_n hx hb dX8_counted_34 rfl (lv_at hl 1 rfl) ?_
    refine r_get C hR 8 0 8 (v := .ref (a 0 0)) (lv0 (by decide) (by decide)) (by decide) (by decide) rfl fl_X8_56 dX8_counted_35 ?_
    refine r_get C hR 0 0 5 (v := .ref (a 23 0)) (lv0 (by decide) (by decide)) (by decide) (by decide) rfl fl_X8_283 dX8_counted_38 ?_
    refine lv_iload_n hx hb dX8_counted_41 rfl (lv_at hl 2 rfl) ?_
    refine lv_iload_n hx hb dX8_counted_42 rfl (lv_at hl 3 rfl) ?_
    obtain ⟨k107, hk107, h⟩ := ob h
    refine r_ast C hR hS 23 0 (lv0 (by decide) (by decide)) (by decide) rfl (fun _ _ => rfl) rfl hk107 dX8_counted_43 (fun H locs hR hS => ?_)
    obtain ⟨u108, eu108⟩ : ∃ z : HS, z = wI u0 23 0 k107 x2 := ⟨_, rfl⟩
    rw [← eu108] at hR
    replace h := bd_x eu108 h
    clear eu108
    refine lv_iload_n hx hb dX8_counted_44 rfl (lv_at hl 0 rfl) ?_
    cases h
    exact x_ret (e_iret C hr hR hS (Nat.le_of_ble_eq_true rfl) (Nat.le_of_ble_eq_true rfl) dX8_counted_45)
  clear h
  have h := hz
  clear hz
  refine jp_cut h (fun j109 hj109 h => ?_)
  have Kj109 : ∀  (H : Heap) (locs : List Loc) (ls : Array Slot), j109 = some x102 → Rel E a u0 H → va_S (AE E) s.heap H locs → lv_has ls 4 [(0, .ref (a 8 0)), (1, .int x1), (2, .int x2)] → W p l e { frames := 7, cells := 2, slots := 12, locals := 111 } s m args below meth c H locs 1 6 (vx_MQ below (QX E a out.1 (some (.int out.2.1)) out.2.2) (XW E a out.1 out.2.2) args s 2 12 (AE E)) (F0 m 20 ls []) := by
    intro  H locs ls h hR hS hl
    replace h := jx0 hj109 h
    refine lv_iconst (v := 0) hx hb dX8_counted_20 (by decide) ?_
    cases h
    exact Kj103 _ _ _ hR hS (lv_sub hl [0, 1, 2] rfl)
  refine lv_if_lt (tgt := 20) hx hb dX8_counted_6 (by decide) (fun c_110 => ?_) (fun c_110 => ?_)
  · rw [if_pos c_110] at h
    exact Kj109  _ _ _ h hR hS (lv_sub hl [0, 1, 2] rfl)
  · rw [if_neg c_110] at h
    refine lv_iload_n hx hb dX8_counted_9 rfl (lv_at hl 2 rfl) ?_
    refine lv_sipush (v := 999) hx hb dX8_counted_10 (by decide) ?_
    refine lv_icmp_gt (tgt := 20) hx hb dX8_counted_13 (by decide) (fun c_111 => ?_) (fun c_111 => ?_)
    · rw [if_pos c_111] at h
      exact Kj109  _ _ _ h hR hS (lv_sub hl [0, 1, 2] rfl)
    · rw [if_neg c_111] at h
      refine lv_iconst (v := 1) hx hb dX8_counted_16 (by decide) ?_
      refine lv_goto (tgt := 21) hx hb dX8_counted_17 (by decide) ?_
      cases h
      exact Kj103 _ _ _ hR hS (lv_sub hl [0, 1, 2] rfl)
