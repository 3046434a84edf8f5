set_option maxHeartbeats 4000000 in
set_option maxRecDepth 100000 in
theorem vX3_onTheWay {l : Launch} {E : EV} {a : Nat → Nat → Nat} {u0 : HS} {x0 : Int32} {x1 : Int32} {x2 : Int32} {out : Int32} (h : mX3_onTheWay x0 x1 x2 = some out) : Ct l E yX3_onTheWay cX3_onTheWay 3 (some .int) 0 0 0 0 a u0 [.int x0, .int x1, .int x2] (some (.int out)) u0 := by
  refine Ct.start (by decide) (Nat.le_of_ble_eq_true rfl) ?_
  intro p e s m args below meth c ls C hr hR hS hl
  have C : Cx E p s m args meth c cX3_onTheWay 3 RX3 := C
  have hl : lv_has ls 3 [(0, .int x0), (1, .int x1), (2, .int x2)] := hl
  have hx := C.1
  have hb := C.2.1
  unfold mX3_onTheWay at h
  refine lv_iload_n hx hb dX3_onTheWay_0 rfl (lv_at hl 2 rfl) ?_
  refine lv_if_ne (tgt := 8) hx hb dX3_onTheWay_1 (by decide) (fun c_101 => ?_) (fun c_101 => ?_)
  · rw [if_neg c_101] at h
    refine lv_iload_n hx hb dX3_onTheWay_8 rfl (lv_at hl 0 rfl) ?_
    refine lv_iload_n hx hb dX3_onTheWay_9 rfl (lv_at hl 1 rfl) ?_
    refine lv_imul hx hb dX3_onTheWay_10 ?_
    refine lv_iload_n hx hb dX3_onTheWay_11 rfl (lv_at hl 2 rfl) ?_
    obtain ⟨_, hn102, h⟩ := ob h
    refine lv_idiv hx hb dX3_onTheWay_12 (nz_ne hn102) ?_
    cases h
    exact e_iret C hr hR hS (Nat.le_of_ble_eq_true rfl) (Nat.le_of_ble_eq_true rfl) dX3_onTheWay_13
  · rw [if_pos c_101] at h
    refine lv_iconst (v := 0) hx hb dX3_onTheWay_4 (by decide) ?_
    refine lv_goto (tgt := 13) hx hb dX3_onTheWay_5 (by decide) ?_
    cases h
    exact e_iret C hr hR hS (Nat.le_of_ble_eq_true rfl) (Nat.le_of_ble_eq_true rfl) dX3_onTheWay_13
set_option maxHeartbeats 4000000 in
set_option maxRecDepth 100000 in
theorem vX3_settleWay {l : Launch} {E : EV} {a : Nat → Nat → Nat} {u0 : HS} {i0 : Nat} {x1 : Int32} {out : HS} (hi0 : i0 < cntS 3) (h : mX3_settleWay u0 i0 x1 = some out) : Ct l E yX3_settleWay cX3_settleWay 7 none 1 22 0 0 a u0 [.ref (a 3 i0), .int x1] none out := by
  refine Ct.start (by decide) (Nat.le_of_ble_eq_true rfl) ?_
  intro p e s m args below meth c ls C hr hR hS hl
  have C : Cx E p s m args meth c cX3_settleWay 7 RX3 := C
  have hl : lv_has ls 7 [(0, .ref (a 3 i0)), (1, .int x1)] := hl
  have hx := C.1
  have hb := C.2.1
  unfold mX3_settleWay at h
  refine lv_aload_n hx hb dX3_settleWay_0 rfl (lv_at hl 0 rfl) ?_
  refine r_get C hR 3 i0 4 (v := .ref (a 39 i0)) (lv0 hi0 (by decide)) (by decide) (by decide) rfl fl_X3_25 dX3_settleWay_1 ?_
  refine lv_iload_n hx hb dX3_settleWay_4 rfl (lv_at hl 1 rfl) ?_
  refine lv_iconst (v := 1) hx hb dX3_settleWay_5 (by decide) ?_
  refine lv_iadd hx hb dX3_settleWay_6 ?_
  obtain ⟨k101, hk101, h⟩ := ob h
  refine r_ald C hR 39 i0 (lv0 hi0 (by decide)) (by decide) rfl (fun _ => rfl) rfl hk101 dX3_settleWay_7 ?_
  refine lv_topi (fun x102 ex102 => ?_)
  replace h := bd_x ex102 h
  refine lv_istore_n (lv' := [(2, .int x102), (0, .ref (a 3 i0)), (1, .int x1)]) hx hb dX3_settleWay_8 rfl hl (by decide) rfl (fun ls hl => ?_)
  refine lv_aload_n hx hb dX3_settleWay_9 rfl (lv_at hl 1 rfl) ?_
  refine r_get C hR 3 i0 4 (v := .ref (a 39 i0)) (lv0 hi0 (by decide)) (by decide) (by decide) rfl fl_X3_25 dX3_settleWay_10 ?_
  refine lv_iload_n hx hb dX3_settleWay_13 rfl (lv_at hl 2 rfl) ?_
  refine lv_iconst (v := 4) hx hb dX3_settleWay_14 (by decide) ?_
  refine lv_iadd hx hb dX3_settleWay_15 ?_
  obtain ⟨k103, hk103, h⟩ := ob h
  refine r_ald C hR 39 i0 (lv0 hi0 (by decide)) (by decide) rfl (fun _ => rfl) rfl hk103 dX3_settleWay_16 ?_
  refine lv_iload_n hx hb dX3_settleWay_17 rfl (lv_at hl 0 rfl) ?_
  refine lv_isub hx hb dX3_settleWay_18 ?_
  refine lv_topi (fun x104 ex104 => ?_)
  replace h := bd_x ex104 h
  refine lv_istore_n (lv' := [(3, .int x104), (2, .int x102), (0, .ref (a 3 i0)), (1, .int x1)]) hx hb dX3_settleWay_19 rfl hl (by decide) rfl (fun ls hl => ?_)
  refine lv_iconst (v := 0) hx hb dX3_settleWay_20 (by decide) ?_
  refine lv_istore (lv' := [(4, .int 0), (3, .int x104), (2, .int x102), (0, .ref (a 3 i0)), (1, .int x1)]) hx hb dX3_settleWay_21 hl (by decide) rfl (fun ls hl => ?_)
  refine jp_cut h (fun w108 hw108 h => ?_)
  have Kw108 : ∀ (u107 : HS) (H : Heap) (locs : List Loc) (ls : Array Slot), w108 u107 = some out → Rel E a u107 H → va_S (AE E) s.heap H locs → lv_has ls 7 [] → W p l e { frames := 1, cells := 0, slots := 0, locals := 22 } s m args below meth c H locs 0 0 (MQ below (QW E a none out) args s 0 0 (AE E)) (F0 m 132 ls []) := by
    intro u107 H locs ls h hR hS hl
    replace h := jx1 hw108 h
    cases h
    exact e_vret C hr hR hS (Nat.le_of_ble_eq_true rfl) (Nat.le_of_ble_eq_true rfl) dX3_settleWay_132
  have LP : ∀ (fu : Nat) (x105 : Int32) (u106 : HS) (H : Heap) (locs : List Loc) (ls : Array Slot), mX3_settleWay_L23 x104 x1 i0 x102 w108 fu x105 u106 = some out → Rel E a u106 H → va_S (AE E) s.heap H locs → lv_has ls 7 [(0, .ref (a 3 i0)), (1, .int x1), (2, .int x102), (3, .int x104), (4, .int x105)] → W p l e { frames := 1, cells := 0, slots := 0, locals := 22 } s m args below meth c H locs 0 0 (MQ below (QW E a none out) args s 0 0 (AE E)) (F0 m 23 ls []) := by
    intro fu
    induction fu with
    | zero =>
      intro x105 u106 H locs ls h
      have h2 : (none : Option HS) = some out := h
      cases h2
    | succ fu ih =>
      intro x105 u106 H locs ls h hR hS hl
      rw [mX3_settleWay_L23.eq_2] at h
      refine lv_iload hx hb dX3_settleWay_23 (lv_at hl 4 rfl) ?_
      refine lv_iload_n hx hb dX3_settleWay_25 rfl (lv_at hl 3 rfl) ?_
      refine lv_icmp_gt (tgt := 132) hx hb dX3_settleWay_26 (by decide) (fun c_109 => ?_) (fun c_109 => ?_)
      · rw [if_pos c_109] at h
        exact Kw108 _ _ _ _ h hR hS (lv_sub hl [] rfl)
      · rw [if_neg c_109] at h
        refine lv_aload_n hx hb dX3_settleWay_29 rfl (lv_at hl 0 rfl) ?_
        refine r_get C hR 3 i0 4 (v := .ref (a 39 i0)) (lv0 hi0 (by decide)) (by decide) (by decide) rfl fl_X3_25 dX3_settleWay_30 ?_
        refine lv_iload_n hx hb dX3_settleWay_33 rfl (lv_at hl 1 rfl) ?_
        refine lv_iconst (v := 2) hx hb dX3_settleWay_34 (by decide) ?_
        refine lv_iadd hx hb dX3_settleWay_35 ?_
        obtain ⟨k110, hk110, h⟩ := ob h
        refine r_ald C hR 39 i0 (lv0 hi0 (by decide)) (by decide) rfl (fun _ => rfl) rfl hk110 dX3_settleWay_36 ?_
        refine lv_aload_n hx hb dX3_settleWay_37 rfl (lv_at hl 0 rfl) ?_
        refine r_get C hR 3 i0 4 (v := .ref (a 39 i0)) (lv0 hi0 (by decide)) (by decide) (by decide) rfl fl_X3_25 dX3_settleWay_38 ?_
        refine lv_iload_n hx hb dX3_settleWay_41 rfl (lv_at hl 1 rfl) ?_
        refine lv_iconst (v := 5) hx hb dX3_settleWay_42 (by decide) ?_
        refine lv_iadd hx hb dX3_settleWay_43 ?_
        obtain ⟨k111, hk111, h⟩ := ob h
        refine r_ald C hR 39 i0 (lv0 hi0 (by decide)) (by decide) rfl (fun _ => rfl) rfl hk111 dX3_settleWay_44 ?_
        refine lv_aload_n hx hb dX3_settleWay_45 rfl (lv_at hl 0 rfl) ?_
        refine r_get C hR 3 i0 4 (v := .ref (a 39 i0)) (lv0 hi0 (by decide)) (by decide) (by decide) rfl fl_X3_25 dX3_settleWay_46 ?_
        refine lv_iload_n hx hb dX3_settleWay_49 rfl (lv_at hl 1 rfl) ?_
        refine lv_iconst (v := 2) hx hb dX3_settleWay_50 (by decide) ?_
        refine lv_iadd hx hb dX3_settleWay_51 ?_
        obtain ⟨k112, hk112, h⟩ := ob h
        refine r_ald C hR 39 i0 (lv0 hi0 (by decide)) (by decide) rfl (fun _ => rfl) rfl hk112 dX3_settleWay_52 ?_
        refine lv_isub hx hb dX3_settleWay_53 ?_
        refine lv_iload hx hb dX3_settleWay_54 (lv_at hl 4 rfl) ?_
        refine lv_iload_n hx hb dX3_settleWay_56 rfl (lv_at hl 3 rfl) ?_
        obtain ⟨x114, hc113, h⟩ := ob h
        refine r_callS1 (As := [.int ((gI u106 39 i0 k111) - (gI u106 39 i0 k112)), .int x105, .int x104]) (rest := [.int (gI u106 39 i0 k110)]) C (vX3_onTheWay hc113) hR hS ml_X3_109 ms_X3_onTheWay rfl ⟨Nat.le_of_ble_eq_true rfl, Nat.le_of_ble_eq_true rfl, Nat.le_of_ble_eq_true rfl, Nat.le_of_ble_eq_true rfl⟩ hl.1 rfl (Nat.le_of_ble_eq_true rfl) dX3_settleWay_57 (fun H locs hR hS => ?_)
        refine lv_iadd hx hb dX3_settleWay_60 ?_
        refine lv_topi (fun x115 ex115 => ?_)
        replace h := bd_x ex115 h
        refine lv_istore (lv' := [(5, .int x115), (0, .ref (a 3 i0)), (1, .int x1), (2, .int x102), (3, .int x104), (4, .int x105)]) hx hb dX3_settleWay_61 hl (by decide) rfl (fun ls hl => ?_)
        refine lv_aload_n hx hb dX3_settleWay_63 rfl (lv_at hl 1 rfl) ?_
        refine r_get C hR 3 i0 4 (v := .ref (a 39 i0)) (lv0 hi0 (by decide)) (by decide) (by decide) rfl fl_X3_25 dX3_settleWay_64 ?_
        refine lv_iload_n hx hb dX3_settleWay_67 rfl (lv_at hl 2 rfl) ?_
        refine lv_iconst (v := 3) hx hb dX3_settleWay_68 (by decide) ?_
        refine lv_iadd hx hb dX3_settleWay_69 ?_
        obtain ⟨k116, hk116, h⟩ := ob h
        refine r_ald C hR 39 i0 (lv0 hi0 (by decide)) (by decide) rfl (fun _ => rfl) rfl hk116 dX3_settleWay_70 ?_
        refine lv_aload_n hx hb dX3_settleWay_71 rfl (lv_at hl 1 rfl) ?_
        refine r_get C hR 3 i0 4 (v := .ref (a 39 i0)) (lv0 hi0 (by decide)) (by decide) (by decide) rfl fl_X3_25 dX3_settleWay_72 ?_
        refine lv_iload_n hx hb dX3_settleWay_75 rfl (lv_at hl 2 rfl) ?_
        refine lv_bipush (v := 6) hx hb dX3_settleWay_76 (by decide) ?_
        refine lv_iadd hx hb dX3_settleWay_78 ?_
        obtain ⟨k117, hk117, h⟩ := ob h
        refine r_ald C hR 39 i0 (lv0 hi0 (by decide)) (by decide) rfl (fun _ => rfl) rfl hk117 dX3_settleWay_79 ?_
        refine lv_aload_n hx hb dX3_settleWay_80 rfl (lv_at hl 1 rfl) ?_
        refine r_get C hR 3 i0 4 (v := .ref (a 39 i0)) (lv0 hi0 (by decide)) (by decide) (by decide) rfl fl_X3_25 dX3_settleWay_81 ?_
        refine lv_iload_n hx hb dX3_settleWay_84 rfl (lv_at hl 2 rfl) ?_
        refine lv_iconst (v := 3) hx hb dX3_settleWay_85 (by decide) ?_
        refine lv_iadd hx hb dX3_settleWay_86 ?_
        obtain ⟨k118, hk118, h⟩ := ob h
        refine r_ald C hR 39 i0 (lv0 hi0 (by decide)) (by decide) rfl (fun _ => rfl) rfl hk118 dX3_settleWay_87 ?_
        refine lv_isub hx hb dX3_settleWay_88 ?_
        refine lv_iload hx hb dX3_settleWay_89 (lv_at hl 5 rfl) ?_
        refine lv_iload_n hx hb dX3_settleWay_91 rfl (lv_at hl 4 rfl) ?_
        obtain ⟨x120, hc119, h⟩ := ob h
        refine r_callS1 (As := [.int ((gI u106 39 i0 k117) - (gI u106 39 i0 k118)), .int x105, .int x104]) (rest := [.int (gI u106 39 i0 k116)]) C (vX3_onTheWay hc119) hR hS ml_X3_109 ms_X3_onTheWay rfl ⟨Nat.le_of_ble_eq_true rfl, Nat.le_of_ble_eq_true rfl, Nat.le_of_ble_eq_true rfl, Nat.le_of_ble_eq_true rfl⟩ hl.1 rfl (Nat.le_of_ble_eq_true rfl) dX3_settleWay_92 (fun H locs hR hS => ?_)
        refine lv_iadd hx hb dX3_settleWay_95 ?_
        refine lv_topi (fun x121 ex121 => ?_)
        replace h := bd_x ex121 h
        refine lv_istore (lv' := [(6, .int x121), (5, .int x115), (0, .ref (a 3 i0)), (1, .int x1), (2, .int x102), (3, .int x104), (4, .int x105)]) hx hb dX3_settleWay_96 hl (by decide) rfl (fun ls hl => ?_)
        refine lv_aload_n hx hb dX3_settleWay_98 rfl (lv_at hl 2 rfl) ?_
        refine r_get C hR 3 i0 12 (v := .ref (a 42 i0)) (lv0 hi0 (by decide)) (by decide) (by decide) rfl fl_X3_49 dX3_settleWay_99 ?_
        refine lv_aload_n hx hb dX3_settleWay_102 rfl (lv_at hl 2 rfl) ?_
        refine r_get C hR 3 i0 4 (v := .ref (a 39 i0)) (lv0 hi0 (by decide)) (by decide) (by decide) rfl fl_X3_25 dX3_settleWay_103 ?_
        refine lv_iload_n hx hb dX3_settleWay_106 rfl (lv_at hl 3 rfl) ?_
        obtain ⟨k122, hk122, h⟩ := ob h
        refine r_ald C hR 39 i0 (lv0 hi0 (by decide)) (by decide) rfl (fun _ => rfl) rfl hk122 dX3_settleWay_107 ?_
        refine lv_sipush (v := 300) hx hb dX3_settleWay_108 (by decide) ?_
        refine lv_imul hx hb dX3_settleWay_111 ?_
        refine lv_iload_n hx hb dX3_settleWay_112 rfl (lv_at hl 4 rfl) ?_
        refine lv_iadd hx hb dX3_settleWay_113 ?_
        refine lv_iload hx hb dX3_settleWay_114 (lv_at hl 6 rfl) ?_
        refine lv_iadd hx hb dX3_settleWay_116 ?_
        refine lv_iload hx hb dX3_settleWay_117 (lv_at hl 1 rfl) ?_
        refine lv_bipush (v := 100) hx hb dX3_settleWay_119 (by decide) ?_
        refine lv_imul hx hb dX3_settleWay_121 ?_
        refine lv_iload hx hb dX3_settleWay_122 (lv_at hl 0 rfl) ?_
        refine lv_iadd hx hb dX3_settleWay_124 ?_
        obtain ⟨k123, hk123, h⟩ := ob h
        refine r_ast C hR hS 42 i0 (lv0 hi0 (by decide)) (by decide) rfl (fun _ _ => rfl) rfl hk123 dX3_settleWay_125 (fun H locs hR hS => ?_)
        obtain ⟨u124, eu124⟩ : ∃ z : HS, z = wI u106 42 i0 k123 ((x115 * 100) + x121) := ⟨_, rfl⟩
        rw [← eu124] at hR
        replace h := bd_x eu124 h
        clear eu124
        obtain ⟨x125, ex125⟩ : ∃ z : Int32, z = x105 + 1 := ⟨_, rfl⟩
        replace h := bd_x ex125 h
        refine lv_iinc (v := x125) (lv' := [(4, .int x125), (6, .int x121), (5, .int x115), (0, .ref (a 3 i0)), (1, .int x1), (2, .int x102), (3, .int x104)]) hx hb dX3_settleWay_126 hl (k := 6) rfl (by rw [ex125]; rfl) (by decide) rfl (fun ls hl => ?_)
        refine lv_goto (tgt := 23) hx hb dX3_settleWay_129 (by decide) ?_
        exact ih _ _ _ _ _ h hR hS (lv_sub hl [3, 4, 5, 6, 0] rfl)
  exact LP FU _ _ _ _ _ h hR hS (lv_sub hl [3, 4, 2, 1, 0] rfl)
set_option maxHeartbeats 4000000 in
set_option maxRecDepth 100000 in
theorem vX3_settleTints {l : Launch} {E : EV} {a : Nat → Nat → Nat} {u0 : HS} {i0 : Nat} {x1 : Int32} {out : HS} (hi0 : i0 < cntS 3) (h : mX3_settleTints u0 i0 x1 = some out) : Ct l E yX3_settleTints cX3_settleTints 4 none 0 0 0 0 a u0 [.ref (a 3 i0), .int x1] none out := by
  refine Ct.start (by decide) (Nat.le_of_ble_eq_true rfl) ?_
  intro p e s m args below meth c ls C hr hR hS hl
  have C : Cx E p s m args meth c cX3_settleTints 4 RX3 := C
  have hl : lv_has ls 4 [(0, .ref (a 3 i0)), (1, .int x1)] := hl
  have hx := C.1
  have hb := C.2.1
  unfold mX3_settleTints at h
  refine lv_aload_n hx hb dX3_settleTints_0 rfl (lv_at hl 0 rfl) ?_
  refine r_get C hR 3 i0 1 (v := .ref (a 37 i0)) (lv0 hi0 (by decide)) (by decide) (by decide) rfl fl_X3_15 dX3_settleTints_1 ?_
  refine lv_iload_n hx hb dX3_settleTints_4 rfl (lv_at hl 1 rfl) ?_
  obtain ⟨k101, hk101, h⟩ := ob h
  refine r_ald C hR 37 i0 (lv0 hi0 (by decide)) (by decide) rfl (fun _ => rfl) rfl hk101 dX3_settleTints_5 ?_
  refine lv_topi (fun x102 ex102 => ?_)
  replace h := bd_x ex102 h
  refine lv_istore_n (lv' := [(2, .int x102), (0, .ref (a 3 i0)), (1, .int x1)]) hx hb dX3_settleTints_6 rfl hl (by decide) rfl (fun ls hl => ?_)
  refine lv_iload_n hx hb dX3_settleTints_7 rfl (lv_at hl 2 rfl) ?_
  refine lv_sipush (v := 300) hx hb dX3_settleTints_8 (by decide) ?_
  refine lv_imul hx hb dX3_settleTints_11 ?_
  refine lv_topi (fun x103 ex103 => ?_)
  replace h := bd_x ex103 h
  refine lv_istore_n (lv' := [(3, .int x103), (2, .int x102), (0, .ref (a 3 i0)), (1, .int x1)]) hx hb dX3_settleTints_12 rfl hl (by decide) rfl (fun ls hl => ?_)
  refine jp_cut h (fun w108 hw108 h => ?_)
  have Kw108 : ∀ (u107 : HS) (H : Heap) (locs : List Loc) (ls : Array Slot), w108 u107 = some out → Rel E a u107 H → va_S (AE E) s.heap H locs → lv_has ls 4 [] → W p l e { frames := 0, cells := 0, slots := 0, locals := 0 } s m args below meth c H locs 0 0 (MQ below (QW E a none out) args s 0 0 (AE E)) (F0 m 54 ls []) := by
    intro u107 H locs ls h hR hS hl
    replace h := jx1 hw108 h
    cases h
    exact e_vret C hr hR hS (Nat.le_of_ble_eq_true rfl) (Nat.le_of_ble_eq_true rfl) dX3_settleTints_54
  have LP : ∀ (fu : Nat) (x104 : Int32) (x105 : Int32) (u106 : HS) (H : Heap) (locs : List Loc) (ls : Array Slot), mX3_settleTints_L13 x1 i0 w108 fu x104 x105 u106 = some out → Rel E a u106 H → va_S (AE E) s.heap H locs → lv_has ls 4 [(0, .ref (a 3 i0)), (1, .int x1), (2, .int x104), (3, .int x105)] → W p l e { frames := 0, cells := 0, slots := 0, locals := 0 } s m args below meth c H locs 0 0 (MQ below (QW E a none out) args s 0 0 (AE E)) (F0 m 13 ls []) := by
    intro fu
    induction fu with
    | zero =>
      intro x104 x105 u106 H locs ls h
      have h2 : (none : Option HS) = some out := h
      cases h2
    | succ fu ih =>
      intro x104 x105 u106 H locs ls h hR hS hl
      rw [mX3_settleTints_L13.eq_2] at h
      refine lv_iload_n hx hb dX3_settleTints_13 rfl (lv_at hl 3 rfl) ?_
      refine lv_iload_n hx hb dX3_settleTints_14 rfl (lv_at hl 1 rfl) ?_
      refine lv_iconst (v := 1) hx hb dX3_settleTints_15 (by decide) ?_
      refine lv_iadd hx hb dX3_settleTints_16 ?_
      refine lv_sipush (v := 300) hx hb dX3_settleTints_17 (by decide) ?_
      refine lv_imul hx hb dX3_settleTints_20 ?_
      refine lv_icmp_ge (tgt := 54) hx hb dX3_settleTints_21 (by decide) (fun c_109 => ?_) (fun c_109 => ?_)
      · rw [if_pos c_109] at h
        exact Kw108 _ _ _ _ h hR hS (lv_sub hl [] rfl)
      · rw [if_neg c_109] at h
        refine lv_aload_n hx hb dX3_settleTints_24 rfl (lv_at hl 0 rfl) ?_
        refine r_get C hR 3 i0 13 (v := .ref (a 43 i0)) (lv0 hi0 (by decide)) (by decide) (by decide) rfl fl_X3_52 dX3_settleTints_25 ?_
        refine lv_iload_n hx hb dX3_settleTints_28 rfl (lv_at hl 3 rfl) ?_
        obtain ⟨k110, hk110, h⟩ := ob h
        refine r_ald C hR 43 i0 (lv0 hi0 (by decide)) (by decide) rfl (fun _ => rfl) rfl hk110 dX3_settleTints_29 ?_
        refine lv_iconst (v := (-1)) hx hb dX3_settleTints_30 (by decide) ?_
        obtain ⟨u111, hz, h⟩ := ob h
        have Kj112 : ∀ (H : Heap) (locs : List Loc) (ls : Array Slot), Rel E a u111 H → va_S (AE E) s.heap H locs → lv_has ls 4 [(0, .ref (a 3 i0)), (1, .int x1), (3, .int x105)] → W p l e { frames := 0, cells := 0, slots := 0, locals := 0 } s m args below meth c H locs 0 0 (MQ below (QW E a none out) args s 0 0 (AE E)) (F0 m 41 ls []) := by
          intro H locs ls hR hS hl
          clear hz
          refine lv_aload_n hx hb dX3_settleTints_41 rfl (lv_at hl 0 rfl) ?_
          refine r_get C hR 3 i0 13 (v := .ref (a 43 i0)) (lv0 hi0 (by decide)) (by decide) (by decide) rfl fl_X3_52 dX3_settleTints_42 ?_
          refine lv_iload_n hx hb dX3_settleTints_45 rfl (lv_at hl 2 rfl) ?_
          obtain ⟨k113, hk113, h⟩ := ob h
          refine r_ald C hR 43 i0 (lv0 hi0 (by decide)) (by decide) rfl (fun _ => rfl) rfl hk113 dX3_settleTints_46 ?_
          refine lv_topi (fun x114 ex114 => ?_)
          replace h := bd_x ex114 h
          refine lv_istore_n (lv' := [(2, .int x114), (0, .ref (a 3 i0)), (1, .int x1), (3, .int x105)]) hx hb dX3_settleTints_47 rfl hl (by decide) rfl (fun ls hl => ?_)
          obtain ⟨x115, ex115⟩ : ∃ z : Int32, z = x105 + 1 := ⟨_, rfl⟩
          replace h := bd_x ex115 h
          refine lv_iinc (v := x115) (lv' := [(3, .int x115), (2, .int x114), (0, .ref (a 3 i0)), (1, .int x1)]) hx hb dX3_settleTints_48 hl (k := 3) rfl (by rw [ex115]; rfl) (by decide) rfl (fun ls hl => ?_)
          refine lv_goto (tgt := 13) hx hb dX3_settleTints_51 (by decide) ?_
          exact ih _ _ _ _ _ _ h hR hS (lv_sub hl [2, 3, 1, 0] rfl)
        clear h
        have h := hz
        clear hz
        refine lv_icmp_ne (tgt := 41) hx hb dX3_settleTints_31 (by decide) (fun c_116 => ?_) (fun c_116 => ?_)
        · rw [if_neg c_116] at h
          cases h
          exact Kj112 _ _ _ hR hS (lv_sub hl [0, 1, 3] rfl)
        · rw [if_pos c_116] at h
          refine lv_aload_n hx hb dX3_settleTints_34 rfl (lv_at hl 0 rfl) ?_
          refine r_get C hR 3 i0 13 (v := .ref (a 43 i0)) (lv0 hi0 (by decide)) (by decide) (by decide) rfl fl_X3_52 dX3_settleTints_35 ?_
          refine lv_iload_n hx hb dX3_settleTints_38 rfl (lv_at hl 3 rfl) ?_
          refine lv_iload_n hx hb dX3_settleTints_39 rfl (lv_at hl 2 rfl) ?_
          obtain ⟨k117, hk117, h⟩ := ob h
          refine r_ast C hR hS 43 i0 (lv0 hi0 (by decide)) (by decide) rfl (fun _ _ => rfl) rfl hk117 dX3_settleTints_40 (fun H locs hR hS => ?_)
          obtain ⟨u118, eu118⟩ : ∃ z : HS, z = wI u106 43 i0 k117 x104 := ⟨_, rfl⟩
          rw [← eu118] at hR
          replace h := bd_x eu118 h
          clear eu118
          cases h
          exact Kj112 _ _ _ hR hS (lv_sub hl [0, 1, 3] rfl)
  exact LP FU _ _ _ _ _ _ h hR hS (lv_sub hl [2, 3, 1, 0] rfl)
set_option maxHeartbeats 4000000 in
set_option maxRecDepth 100000 in
theorem vX3_isCell {l : Launch} {E : EV} {a : Nat → Nat → Nat} {u0 : HS} {i0 : Nat} {x1 : Int32} {x2 : Int32} {out : Int32} (hi0 : i0 < cntS 3) (h : mX3_isCell u0 i0 x1 x2 = some out) : Ct l E yX3_isCell cX3_isCell 3 (some .boolean) 0 0 0 0 a u0 [.ref (a 3 i0), .int x1, .int x2] (some (.int out)) u0 := by
  refine Ct.start (by decide) (Nat.le_of_ble_eq_true rfl) ?_
  intro p e s m args below meth c ls C hr hR hS hl
  have C : Cx E p s m args meth c cX3_isCell 3 RX3 := C
  have hl : lv_has ls 3 [(0, .ref (a 3 i0)), (1, .int x1), (2, .int x2)] := hl
  have hx := C.1
  have hb := C.2.1
  unfold mX3_isCell at h
  refine lv_iload_n hx hb dX3_isCell_0 rfl (lv_at hl 1 rfl) ?_
  refine lv_if_lt (tgt := 27) hx hb dX3_isCell_1 (by decide) (fun c_101 => ?_) (fun c_101 => ?_)
  · rw [if_pos c_101] at h
    refine lv_iconst (v := 0) hx hb dX3_isCell_27 (by decide) ?_
    cases h
    exact e_zret (v := 0) C hr rfl hR hS (Nat.le_of_ble_eq_true rfl) (Nat.le_of_ble_eq_true rfl) dX3_isCell_28
  · rw [if_neg c_101] at h
    refine lv_iload_n hx hb dX3_isCell_4 rfl (lv_at hl 1 rfl) ?_
    refine lv_aload_n hx hb dX3_isCell_5 rfl (lv_at hl 0 rfl) ?_
    refine r_get C hR 3 i0 0 (v := .int (gI u0 3 i0 0)) (lv0 hi0 (by decide)) (by decide) (by decide) rfl fl_X3_9 dX3_isCell_6 ?_
    refine lv_icmp_ge (tgt := 27) hx hb dX3_isCell_9 (by decide) (fun c_102 => ?_) (fun c_102 => ?_)
    · rw [if_pos c_102] at h
      refine lv_iconst (v := 0) hx hb dX3_isCell_27 (by decide) ?_
      cases h
      exact e_zret (v := 0) C hr rfl hR hS (Nat.le_of_ble_eq_true rfl) (Nat.le_of_ble_eq_true rfl) dX3_isCell_28
    · rw [if_neg c_102] at h
      refine lv_iload_n hx hb dX3_isCell_12 rfl (lv_at hl 2 rfl) ?_
      refine lv_if_lt (tgt := 27) hx hb dX3_isCell_13 (by decide) (fun c_103 => ?_) (fun c_103 => ?_)
      · rw [if_pos c_103] at h
        refine lv_iconst (v := 0) hx hb dX3_isCell_27 (by decide) ?_
        cases h
        exact e_zret (v := 0) C hr rfl hR hS (Nat.le_of_ble_eq_true rfl) (Nat.le_of_ble_eq_true rfl) dX3_isCell_28
      · rw [if_neg c_103] at h
        refine lv_iload_n hx hb dX3_isCell_16 rfl (lv_at hl 2 rfl) ?_
        refine lv_sipush (v := 300) hx hb dX3_isCell_17 (by decide) ?_
        refine lv_icmp_ge (tgt := 27) hx hb dX3_isCell_20 (by decide) (fun c_104 => ?_) (fun c_104 => ?_)
        · rw [if_pos c_104] at h
          refine lv_iconst (v := 0) hx hb dX3_isCell_27 (by decide) ?_
          cases h
          exact e_zret (v := 0) C hr rfl hR hS (Nat.le_of_ble_eq_true rfl) (Nat.le_of_ble_eq_true rfl) dX3_isCell_28
        · rw [if_neg c_104] at h
          refine lv_iconst (v := 1) hx hb dX3_isCell_23 (by decide) ?_
          refine lv_goto (tgt := 28) hx hb dX3_isCell_24 (by decide) ?_
          cases h
          exact e_zret (v := 1) C hr rfl hR hS (Nat.le_of_ble_eq_true rfl) (Nat.le_of_ble_eq_true rfl) dX3_isCell_28
set_option maxHeartbeats 4000000 in
set_option maxRecDepth 100000 in
theorem vX3_placeAt {l : Launch} {E : EV} {a : Nat → Nat → Nat} {u0 : HS} {i0 : Nat} {x1 : Int32} {x2 : Int32} {out : Int32} (hi0 : i0 < cntS 3) (h : mX3_placeAt u0 i0 x1 x2 = some out) : Ct l E yX3_placeAt cX3_placeAt 3 (some .int) 1 22 0 0 a u0 [.ref (a 3 i0), .int x1, .int x2] (some (.int out)) u0 := by
  refine Ct.start (by decide) (Nat.le_of_ble_eq_true rfl) ?_
  intro p e s m args below meth c ls C hr hR hS hl
  have C : Cx E p s m args meth c cX3_placeAt 3 RX3 := C
  have hl : lv_has ls 3 [(0, .ref (a 3 i0)), (1, .int x1), (2, .int x2)] := hl
  have hx := C.1
  have hb := C.2.1
  unfold mX3_placeAt at h
  refine lv_aload_n hx hb dX3_placeAt_0 rfl (lv_at hl 0 rfl) ?_
  refine lv_iload_n hx hb dX3_placeAt_1 rfl (lv_at hl 1 rfl) ?_
  refine lv_iload_n hx hb dX3_placeAt_2 rfl (lv_at hl 2 rfl) ?_
  obtain ⟨x102, hc101, h⟩ := ob h
  refine r_callV1 (As := [.int x1, .int x2]) (rest := []) (r := 3) (i := i0) C (vX3_isCell hi0 hc101) hR hS (lv0 hi0 (by decide)) (by decide) ml_X3_113 mw_X3_isCell rfl ⟨Nat.le_of_ble_eq_true rfl, Nat.le_of_ble_eq_true rfl, Nat.le_of_ble_eq_true rfl, Nat.le_of_ble_eq_true rfl⟩ hl.1 rfl (Nat.le_of_ble_eq_true rfl) dX3_placeAt_3 (fun H locs hR hS => ?_)
  refine lv_if_eq (tgt := 24) hx hb dX3_placeAt_6 (by decide) (fun c_103 => ?_) (fun c_103 => ?_)
  · rw [if_pos c_103] at h
    refine lv_iconst (v := (-1)) hx hb dX3_placeAt_24 (by decide) ?_
    cases h
    exact e_iret C hr hR hS (Nat.le_of_ble_eq_true rfl) (Nat.le_of_ble_eq_true rfl) dX3_placeAt_25
  · rw [if_neg c_103] at h
    refine lv_aload_n hx hb dX3_placeAt_9 rfl (lv_at hl 0 rfl) ?_
    refine r_get C hR 3 i0 12 (v := .ref (a 42 i0)) (lv0 hi0 (by decide)) (by decide) (by decide) rfl fl_X3_49 dX3_placeAt_10 ?_
    refine lv_iload_n hx hb dX3_placeAt_13 rfl (lv_at hl 1 rfl) ?_
    refine lv_sipush (v := 300) hx hb dX3_placeAt_14 (by decide) ?_
    refine lv_imul hx hb dX3_placeAt_17 ?_
    refine lv_iload_n hx hb dX3_placeAt_18 rfl (lv_at hl 2 rfl) ?_
    refine lv_iadd hx hb dX3_placeAt_19 ?_
    obtain ⟨k104, hk104, h⟩ := ob h
    refine r_ald C hR 42 i0 (lv0 hi0 (by decide)) (by decide) rfl (fun _ => rfl) rfl hk104 dX3_placeAt_20 ?_
    refine lv_goto (tgt := 25) hx hb dX3_placeAt_21 (by decide) ?_
    cases h
    exact e_iret C hr hR hS (Nat.le_of_ble_eq_true rfl) (Nat.le_of_ble_eq_true rfl) dX3_placeAt_25
set_option maxHeartbeats 4000000 in
set_option maxRecDepth 100000 in
theorem vX3_tintAt {l : Launch} {E : EV} {a : Nat → Nat → Nat} {u0 : HS} {i0 : Nat} {x1 : Int32} {x2 : Int32} {out : Int32} (hi0 : i0 < cntS 3) (h : mX3_tintAt u0 i0 x1 x2 = some out) : Ct l E yX3_tintAt cX3_tintAt 3 (some .int) 1 22 0 0 a u0 [.ref (a 3 i0), .int x1, .int x2] (some (.int out)) u0 := by
  refine Ct.start (by decide) (Nat.le_of_ble_eq_true rfl) ?_
  intro p e s m args below meth c ls C hr hR hS hl
  have C : Cx E p s m args meth c cX3_tintAt 3 RX3 := C
  have hl : lv_has ls 3 [(0, .ref (a 3 i0)), (1, .int x1), (2, .int x2)] := hl
  have hx := C.1
  have hb := C.2.1
  unfold mX3_tintAt at h
  refine lv_aload_n hx hb dX3_tintAt_0 rfl (lv_at hl 0 rfl) ?_
  refine lv_iload_n hx hb dX3_tintAt_1 rfl (lv_at hl 1 rfl) ?_
  refine lv_iload_n hx hb dX3_tintAt_2 rfl (lv_at hl 2 rfl) ?_
  obtain ⟨x102, hc101, h⟩ := ob h
  refine r_callV1 (As := [.int x1, .int x2]) (rest := []) (r := 3) (i := i0) C (vX3_isCell hi0 hc101) hR hS (lv0 hi0 (by decide)) (by decide) ml_X3_113 mw_X3_isCell rfl ⟨Nat.le_of_ble_eq_true rfl, Nat.le_of_ble_eq_true rfl, Nat.le_of_ble_eq_true rfl, Nat.le_of_ble_eq_true rfl⟩ hl.1 rfl (Nat.le_of_ble_eq_true rfl) dX3_tintAt_3 (fun H locs hR hS => ?_)
  refine lv_if_eq (tgt := 24) hx hb dX3_tintAt_6 (by decide) (fun c_103 => ?_) (fun c_103 => ?_)
  · rw [if_pos c_103] at h
    refine lv_iconst (v := (-1)) hx hb dX3_tintAt_24 (by decide) ?_
    cases h
    exact e_iret C hr hR hS (Nat.le_of_ble_eq_true rfl) (Nat.le_of_ble_eq_true rfl) dX3_tintAt_25
  · rw [if_neg c_103] at h
    refine lv_aload_n hx hb dX3_tintAt_9 rfl (lv_at hl 0 rfl) ?_
    refine r_get C hR 3 i0 13 (v := .ref (a 43 i0)) (lv0 hi0 (by decide)) (by decide) (by decide) rfl fl_X3_52 dX3_tintAt_10 ?_
    refine lv_iload_n hx hb dX3_tintAt_13 rfl (lv_at hl 1 rfl) ?_
    refine lv_sipush (v := 300) hx hb dX3_tintAt_14 (by decide) ?_
    refine lv_imul hx hb dX3_tintAt_17 ?_
    refine lv_iload_n hx hb dX3_tintAt_18 rfl (lv_at hl 2 rfl) ?_
    refine lv_iadd hx hb dX3_tintAt_19 ?_
    obtain ⟨k104, hk104, h⟩ := ob h
    refine r_ald C hR 43 i0 (lv0 hi0 (by decide)) (by decide) rfl (fun _ => rfl) rfl hk104 dX3_tintAt_20 ?_
    refine lv_goto (tgt := 25) hx hb dX3_tintAt_21 (by decide) ?_
    cases h
    exact e_iret C hr hR hS (Nat.le_of_ble_eq_true rfl) (Nat.le_of_ble_eq_true rfl) dX3_tintAt_25
set_option maxHeartbeats 4000000 in
set_option maxRecDepth 100000 in
theorem vX7_farther {l : Launch} {E : EV} {a : Nat → Nat → Nat} {u0 : HS} {x0 : Int32} {x1 : Int32} {x2 : Int32} {out : Int32} (h : mX7_farther x0 x1 x2 = some out) : Ct l E yX7_farther cX7_farther 5 (some .int) 0 0 0 0 a u0 [.int x0, .int x1, .int x2] (some (.int out)) u0 := by
  refine Ct.start (by decide) (Nat.le_of_ble_eq_true rfl) ?_
  intro p e s m args below meth c ls C hr hR hS hl
  have C : Cx E p s m args meth c cX7_farther 5 RX7 := C
  have hl : lv_has ls 5 [(0, .int x0), (1, .int x1), (2, .int x2)] := hl
  have hx := C.1
  have hb := C.2.1
  unfold mX7_farther at h
  refine lv_iload_n hx hb dX7_farther_0 rfl (lv_at hl 0 rfl) ?_
  refine lv_bipush (v := 100) hx hb dX7_farther_1 (by decide) ?_
  refine lv_idiv hx hb dX7_farther_3 (by decide) ?_
  refine lv_iload_n hx hb dX7_farther_4 rfl (lv_at hl 1 rfl) ?_
  refine lv_bipush (v := 100) hx hb dX7_farther_5 (by decide) ?_
  refine lv_idiv hx hb dX7_farther_7 (by decide) ?_
  refine lv_isub hx hb dX7_farther_8 ?_
  refine lv_topi (fun x101 ex101 => ?_)
  replace h := bd_x ex101 h
  refine lv_istore_n (lv' := [(3, .int x101), (0, .int x0), (1, .int x1), (2, .int x2)]) hx hb dX7_farther_9 rfl hl (by decide) rfl (fun ls hl => ?_)
  refine lv_iload_n hx hb dX7_farther_10 rfl (lv_at hl 1 rfl) ?_
  refine lv_bipush (v := 100) hx hb dX7_farther_11 (by decide) ?_
  refine lv_irem hx hb dX7_farther_13 (by decide) ?_
  refine lv_iload_n hx hb dX7_farther_14 rfl (lv_at hl 2 rfl) ?_
  refine lv_bipush (v := 100) hx hb dX7_farther_15 (by decide) ?_
  refine lv_irem hx hb dX7_farther_17 (by decide) ?_
  refine lv_isub hx hb dX7_farther_18 ?_
  refine lv_topi (fun x102 ex102 => ?_)
  replace h := bd_x ex102 h
  refine lv_istore (lv' := [(4, .int x102), (3, .int x101), (0, .int x0), (1, .int x1), (2, .int x2)]) hx hb dX7_farther_19 hl (by decide) rfl (fun ls hl => ?_)
  refine lv_iload_n hx hb dX7_farther_21 rfl (lv_at hl 1 rfl) ?_
  obtain ⟨x103, hz, h⟩ := ob h
  have Kj104 : ∀ (H : Heap) (locs : List Loc) (ls : Array Slot), Rel E a u0 H → va_S (AE E) s.heap H locs → lv_has ls 5 [(2, .int x2), (4, .int x102)] → W p l e { frames := 0, cells := 0, slots := 0, locals := 0 } s m args below meth c H locs 0 0 (MQ below (QW E a (some (.int out)) u0) args s 0 0 (AE E)) (F0 m 31 ls [.int x103]) := by
    intro H locs ls hR hS hl
    clear hz
    refine lv_iload_n hx hb dX7_farther_31 rfl (lv_at hl 0 rfl) ?_
    refine lv_isub hx hb dX7_farther_32 ?_
    refine lv_topi (fun x105 ex105 => ?_)
    replace h := bd_x ex105 h
    refine lv_istore_n (lv' := [(3, .int x105), (2, .int x2), (4, .int x102)]) hx hb dX7_farther_33 rfl hl (by decide) rfl (fun ls hl => ?_)
    refine lv_iload hx hb dX7_farther_34 (lv_at hl 2 rfl) ?_
    obtain ⟨x106, hz, h⟩ := ob h
    have Kj107 : ∀ (H : Heap) (locs : List Loc) (ls : Array Slot), Rel E a u0 H → va_S (AE E) s.heap H locs → lv_has ls 5 [(3, .int x105)] → W p l e { frames := 0, cells := 0, slots := 0, locals := 0 } s m args below meth c H locs 0 0 (MQ below (QW E a (some (.int out)) u0) args s 0 0 (AE E)) (F0 m 47 ls [.int x106]) := by
      intro H locs ls hR hS hl
      clear hz
      refine lv_istore (lv' := [(4, .int x106), (3, .int x105)]) hx hb dX7_farther_47 hl (by decide) rfl (fun ls hl => ?_)
      refine lv_iload_n hx hb dX7_farther_49 rfl (lv_at hl 1 rfl) ?_
      refine lv_iload hx hb dX7_farther_50 (lv_at hl 0 rfl) ?_
      refine lv_icmp_le (tgt := 59) hx hb dX7_farther_52 (by decide) (fun c_108 => ?_) (fun c_108 => ?_)
      · rw [if_pos c_108] at h
        refine lv_iload hx hb dX7_farther_59 (lv_at hl 0 rfl) ?_
        cases h
        exact e_iret C hr hR hS (Nat.le_of_ble_eq_true rfl) (Nat.le_of_ble_eq_true rfl) dX7_farther_61
      · rw [if_neg c_108] at h
        refine lv_iload_n hx hb dX7_farther_55 rfl (lv_at hl 1 rfl) ?_
        refine lv_goto (tgt := 61) hx hb dX7_farther_56 (by decide) ?_
        cases h
        exact e_iret C hr hR hS (Nat.le_of_ble_eq_true rfl) (Nat.le_of_ble_eq_true rfl) dX7_farther_61
    clear h
    have h := hz
    clear hz
    refine lv_if_ge (tgt := 45) hx hb dX7_farther_36 (by decide) (fun c_109 => ?_) (fun c_109 => ?_)
    · rw [if_pos c_109] at h
      refine lv_iload hx hb dX7_farther_45 (lv_at hl 2 rfl) ?_
      cases h
      exact Kj107 _ _ _ hR hS (lv_sub hl [0] rfl)
    · rw [if_neg c_109] at h
      refine lv_iload hx hb dX7_farther_39 (lv_at hl 2 rfl) ?_
      refine lv_ineg hx hb dX7_farther_41 ?_
      refine lv_goto (tgt := 47) hx hb dX7_farther_42 (by decide) ?_
      cases h
      exact Kj107 _ _ _ hR hS (lv_sub hl [0] rfl)
  clear h
  have h := hz
  clear hz
  refine lv_if_ge (tgt := 30) hx hb dX7_farther_22 (by decide) (fun c_110 => ?_) (fun c_110 => ?_)
  · rw [if_pos c_110] at h
    refine lv_iload_n hx hb dX7_farther_30 rfl (lv_at hl 1 rfl) ?_
    cases h
    exact Kj104 _ _ _ hR hS (lv_sub hl [4, 0] rfl)
  · rw [if_neg c_110] at h
    refine lv_iload_n hx hb dX7_farther_25 rfl (lv_at hl 1 rfl) ?_
    refine lv_ineg hx hb dX7_farther_26 ?_
    refine lv_goto (tgt := 31) hx hb dX7_farther_27 (by decide) ?_
    cases h
    exact Kj104 _ _ _ hR hS (lv_sub hl [4, 0] rfl)
set_option maxHeartbeats 4000000 in
set_option maxRecDepth 100000 in
theorem vX3_paceAt {l : Launch} {E : EV} {a : Nat → Nat → Nat} {u0 : HS} {i0 : Nat} {x1 : Int32} {x2 : Int32} {out : Int32} (hi0 : i0 < cntS 3) (h : mX3_paceAt u0 i0 x1 x2 = some out) : Ct l E yX3_paceAt cX3_paceAt 5 (some .int) 2 44 0 0 a u0 [.ref (a 3 i0), .int x1, .int x2] (some (.int out)) u0 := by
  refine Ct.start (by decide) (Nat.le_of_ble_eq_true rfl) ?_
  intro p e s m args below meth c ls C hr hR hS hl
  have C : Cx E p s m args meth c cX3_paceAt 5 RX3 := C
  have hl : lv_has ls 5 [(0, .ref (a 3 i0)), (1, .int x1), (2, .int x2)] := hl
  have hx := C.1
  have hb := C.2.1
  unfold mX3_paceAt at h
  refine lv_aload_n hx hb dX3_paceAt_0 rfl (lv_at hl 0 rfl) ?_
  refine lv_iload_n hx hb dX3_paceAt_1 rfl (lv_at hl 1 rfl) ?_
  refine lv_iload_n hx hb dX3_paceAt_2 rfl (lv_at hl 2 rfl) ?_
  obtain ⟨x102, hc101, h⟩ := ob h
  refine r_callV1 (As := [.int x1, .int x2]) (rest := []) (r := 3) (i := i0) C (vX3_placeAt hi0 hc101) hR hS (lv0 hi0 (by decide)) (by decide) ml_X3_117 mw_X3_placeAt rfl ⟨Nat.le_of_ble_eq_true rfl, Nat.le_of_ble_eq_true rfl, Nat.le_of_ble_eq_true rfl, Nat.le_of_ble_eq_true rfl⟩ hl.1 rfl (Nat.le_of_ble_eq_true rfl) dX3_paceAt_3 (fun H locs hR hS => ?_)
  refine lv_istore_n (lv' := [(3, .int x102), (0, .ref (a 3 i0)), (1, .int x1), (2, .int x2)]) hx hb dX3_paceAt_6 rfl hl (by decide) rfl (fun ls hl => ?_)
  refine lv_aload_n hx hb dX3_paceAt_7 rfl (lv_at hl 1 rfl) ?_
  refine lv_iload_n hx hb dX3_paceAt_8 rfl (lv_at hl 2 rfl) ?_
  refine lv_iload_n hx hb dX3_paceAt_9 rfl (lv_at hl 3 rfl) ?_
  refine lv_iconst (v := 1) hx hb dX3_paceAt_10 (by decide) ?_
  refine lv_isub hx hb dX3_paceAt_11 ?_
  obtain ⟨x104, hc103, h⟩ := ob h
  refine r_callV1 (As := [.int x1, .int (x2 - 1)]) (rest := []) (r := 3) (i := i0) C (vX3_placeAt hi0 hc103) hR hS (lv0 hi0 (by decide)) (by decide) ml_X3_117 mw_X3_placeAt rfl ⟨Nat.le_of_ble_eq_true rfl, Nat.le_of_ble_eq_true rfl, Nat.le_of_ble_eq_true rfl, Nat.le_of_ble_eq_true rfl⟩ hl.1 rfl (Nat.le_of_ble_eq_true rfl) dX3_paceAt_12 (fun H locs hR hS => ?_)
  refine lv_istore (lv' := [(4, .int x104), (3, .int x102), (0, .ref (a 3 i0)), (1, .int x1), (2, .int x2)]) hx hb dX3_paceAt_15 hl (by decide) rfl (fun ls hl => ?_)
  refine lv_iload_n hx hb dX3_paceAt_17 rfl (lv_at hl 1 rfl) ?_
  refine lv_iconst (v := (-1)) hx hb dX3_paceAt_18 (by decide) ?_
  refine lv_icmp_eq (tgt := 28) hx hb dX3_paceAt_19 (by decide) (fun c_105 => ?_) (fun c_105 => ?_)
  · rw [if_pos c_105] at h
    refine lv_iconst (v := 0) hx hb dX3_paceAt_28 (by decide) ?_
    refine lv_goto (tgt := 39) hx hb dX3_paceAt_29 (by decide) ?_
    cases h
    exact e_iret C hr hR hS (Nat.le_of_ble_eq_true rfl) (Nat.le_of_ble_eq_true rfl) dX3_paceAt_39
  · rw [if_neg c_105] at h
    refine lv_iload hx hb dX3_paceAt_22 (lv_at hl 0 rfl) ?_
    refine lv_iconst (v := (-1)) hx hb dX3_paceAt_24 (by decide) ?_
    refine lv_icmp_ne (tgt := 32) hx hb dX3_paceAt_25 (by decide) (fun c_106 => ?_) (fun c_106 => ?_)
    · rw [if_neg c_106] at h
      refine lv_iload_n hx hb dX3_paceAt_32 rfl (lv_at hl 1 rfl) ?_
      refine lv_iload hx hb dX3_paceAt_33 (lv_at hl 0 rfl) ?_
      refine lv_iconst (v := 0) hx hb dX3_paceAt_35 (by decide) ?_
      obtain ⟨x108, hc107, h⟩ := ob h
      refine r_callS1 (As := [.int x102, .int x104, .int 0]) (rest := []) C (vX7_farther hc107) hR hS ml_X3_120 ms_X7_farther rfl ⟨Nat.le_of_ble_eq_true rfl, Nat.le_of_ble_eq_true rfl, Nat.le_of_ble_eq_true rfl, Nat.le_of_ble_eq_true rfl⟩ hl.1 rfl (Nat.le_of_ble_eq_true rfl) dX3_paceAt_36 (fun H locs hR hS => ?_)
      cases h
      exact e_iret C hr hR hS (Nat.le_of_ble_eq_true rfl) (Nat.le_of_ble_eq_true rfl) dX3_paceAt_39
    · rw [if_pos c_106] at h
      refine lv_iconst (v := 0) hx hb dX3_paceAt_28 (by decide) ?_
      refine lv_goto (tgt := 39) hx hb dX3_paceAt_29 (by decide) ?_
      cases h
      exact e_iret C hr hR hS (Nat.le_of_ble_eq_true rfl) (Nat.le_of_ble_eq_true rfl) dX3_paceAt_39
set_option maxHeartbeats 4000000 in
set_option maxRecDepth 100000 in
theorem vX3_turned {l : Launch} {E : EV} {a : Nat → Nat → Nat} {u0 : HS} {i0 : Nat} {x1 : Int32} {x2 : Int32} {out : Int32} (hi0 : i0 < cntS 3) (h : mX3_turned u0 i0 x1 x2 = some out) : Ct l E yX3_turned cX3_turned 5 (some .boolean) 0 0 0 0 a u0 [.ref (a 3 i0), .int x1, .int x2] (some (.int out)) u0 := by
  refine Ct.start (by decide) (Nat.le_of_ble_eq_true rfl) ?_
  intro p e s m args below meth c ls C hr hR hS hl
  have C : Cx E p s m args meth c cX3_turned 5 RX3 := C
  have hl : lv_has ls 5 [(0, .ref (a 3 i0)), (1, .int x1), (2, .int x2)] := hl
  have hx := C.1
  have hb := C.2.1
  unfold mX3_turned at h
  refine lv_iconst (v := 0) hx hb dX3_turned_0 (by decide) ?_
  refine lv_istore_n (lv' := [(3, .int 0), (0, .ref (a 3 i0)), (1, .int x1), (2, .int x2)]) hx hb dX3_turned_1 rfl hl (by decide) rfl (fun ls hl => ?_)
  refine jp_cut h (fun w102 hw102 h => ?_)
  have Kw102 : ∀  (H : Heap) (locs : List Loc) (ls : Array Slot), w102 = some out → Rel E a u0 H → va_S (AE E) s.heap H locs → lv_has ls 5 [] → W p l e { frames := 0, cells := 0, slots := 0, locals := 0 } s m args below meth c H locs 0 0 (MQ below (QW E a (some (.int out)) u0) args s 0 0 (AE E)) (F0 m 56 ls []) := by
    intro  H locs ls h hR hS hl
    replace h := jx0 hw102 h
    refine lv_iconst (v := 0) hx hb dX3_turned_56 (by decide) ?_
    cases h
    exact e_zret (v := 0) C hr rfl hR hS (Nat.le_of_ble_eq_true rfl) (Nat.le_of_ble_eq_true rfl) dX3_turned_57
  have LP : ∀ (fu : Nat) (x101 : Int32) (H : Heap) (locs : List Loc) (ls : Array Slot), mX3_turned_L2 u0 i0 x2 x1 w102 fu x101 = some out → Rel E a u0 H → va_S (AE E) s.heap H locs → lv_has ls 5 [(0, .ref (a 3 i0)), (1, .int x1), (2, .int x2), (3, .int x101)] → W p l e { frames := 0, cells := 0, slots := 0, locals := 0 } s m args below meth c H locs 0 0 (MQ below (QW E a (some (.int out)) u0) args s 0 0 (AE E)) (F0 m 2 ls []) := by
    intro fu
    induction fu with
    | zero =>
      intro x101 H locs ls h
      have h2 : (none : Option Int32) = some out := h
      cases h2
    | succ fu ih =>
      intro x101 H locs ls h hR hS hl
      rw [mX3_turned_L2.eq_2] at h
      refine lv_iload_n hx hb dX3_turned_2 rfl (lv_at hl 3 rfl) ?_
      refine lv_aload_n hx hb dX3_turned_3 rfl (lv_at hl 0 rfl) ?_
      refine r_get C hR 3 i0 7 (v := .int (gI u0 3 i0 7)) (lv0 hi0 (by decide)) (by decide) (by decide) rfl fl_X3_34 dX3_turned_4 ?_
      refine lv_icmp_ge (tgt := 56) hx hb dX3_turned_7 (by decide) (fun c_103 => ?_) (fun c_103 => ?_)
      · rw [if_pos c_103] at h
        exact Kw102  _ _ _ h hR hS (lv_sub hl [] rfl)
      · rw [if_neg c_103] at h
        refine lv_iload_n hx hb dX3_turned_10 rfl (lv_at hl 2 rfl) ?_
        refine lv_aload_n hx hb dX3_turned_11 rfl (lv_at hl 0 rfl) ?_
        refine r_get C hR 3 i0 8 (v := .ref (a 41 i0)) (lv0 hi0 (by decide)) (by decide) (by decide) rfl fl_X3_37 dX3_turned_12 ?_
        refine lv_iload_n hx hb dX3_turned_15 rfl (lv_at hl 3 rfl) ?_
        refine lv_iconst (v := 3) hx hb dX3_turned_16 (by decide) ?_
        refine lv_imul hx hb dX3_turned_17 ?_
        refine lv_iconst (v := 1) hx hb dX3_turned_18 (by decide) ?_
        refine lv_iadd hx hb dX3_turned_19 ?_
        obtain ⟨k104, hk104, h⟩ := ob h
        refine r_ald C hR 41 i0 (lv0 hi0 (by decide)) (by decide) rfl (fun _ => rfl) rfl hk104 dX3_turned_20 ?_
        refine lv_isub hx hb dX3_turned_21 ?_
        refine lv_topi (fun x105 ex105 => ?_)
        replace h := bd_x ex105 h
        refine lv_istore (lv' := [(4, .int x105), (0, .ref (a 3 i0)), (1, .int x1), (2, .int x2), (3, .int x101)]) hx hb dX3_turned_22 hl (by decide) rfl (fun ls hl => ?_)
        refine lv_aload_n hx hb dX3_turned_24 rfl (lv_at hl 1 rfl) ?_
        refine r_get C hR 3 i0 8 (v := .ref (a 41 i0)) (lv0 hi0 (by decide)) (by decide) (by decide) rfl fl_X3_37 dX3_turned_25 ?_
        refine lv_iload_n hx hb dX3_turned_28 rfl (lv_at hl 4 rfl) ?_
        refine lv_iconst (v := 3) hx hb dX3_turned_29 (by decide) ?_
        refine lv_imul hx hb dX3_turned_30 ?_
        obtain ⟨k106, hk106, h⟩ := ob h
        refine r_ald C hR 41 i0 (lv0 hi0 (by decide)) (by decide) rfl (fun _ => rfl) rfl hk106 dX3_turned_31 ?_
        refine lv_iload_n hx hb dX3_turned_32 rfl (lv_at hl 2 rfl) ?_
        refine jp_cut h (fun j107 hj107 h => ?_)
        have Kj107 : ∀  (H : Heap) (locs : List Loc) (ls : Array Slot), j107 = some out → Rel E a u0 H → va_S (AE E) s.heap H locs → lv_has ls 5 [(0, .ref (a 3 i0)), (1, .int x1), (2, .int x2), (3, .int x101)] → W p l e { frames := 0, cells := 0, slots := 0, locals := 0 } s m args below meth c H locs 0 0 (MQ below (QW E a (some (.int out)) u0) args s 0 0 (AE E)) (F0 m 50 ls []) := by
          intro  H locs ls h hR hS hl
          replace h := jx0 hj107 h
          obtain ⟨x108, ex108⟩ : ∃ z : Int32, z = x101 + 1 := ⟨_, rfl⟩
          replace h := bd_x ex108 h
          refine lv_iinc (v := x108) (lv' := [(3, .int x108), (0, .ref (a 3 i0)), (1, .int x1), (2, .int x2)]) hx hb dX3_turned_50 hl (k := 3) rfl (by rw [ex108]; rfl) (by decide) rfl (fun ls hl => ?_)
          refine lv_goto (tgt := 2) hx hb dX3_turned_53 (by decide) ?_
          exact ih _ _ _ _ h hR hS (lv_sub hl [1, 2, 3, 0] rfl)
        refine lv_icmp_ne (tgt := 50) hx hb dX3_turned_33 (by decide) (fun c_109 => ?_) (fun c_109 => ?_)
        · rw [if_neg c_109] at h
          exact Kj107  _ _ _ h hR hS (lv_sub hl [1, 2, 3, 4] rfl)
        · rw [if_pos c_109] at h
          refine lv_iload hx hb dX3_turned_36 (lv_at hl 0 rfl) ?_
          refine lv_if_lt (tgt := 50) hx hb dX3_turned_38 (by decide) (fun c_110 => ?_) (fun c_110 => ?_)
          · rw [if_pos c_110] at h
            exact Kj107  _ _ _ h hR hS (lv_sub hl [1, 2, 3, 4] rfl)
          · rw [if_neg c_110] at h
            refine lv_iload hx hb dX3_turned_41 (lv_at hl 0 rfl) ?_
            refine lv_bipush (v := 9) hx hb dX3_turned_43 (by decide) ?_
            refine lv_icmp_gt (tgt := 50) hx hb dX3_turned_45 (by decide) (fun c_111 => ?_) (fun c_111 => ?_)
            · rw [if_pos c_111] at h
              exact Kj107  _ _ _ h hR hS (lv_sub hl [1, 2, 3, 4] rfl)
            · rw [if_neg c_111] at h
              refine lv_iconst (v := 1) hx hb dX3_turned_48 (by decide) ?_
              cases h
              exact e_zret (v := 1) C hr rfl hR hS (Nat.le_of_ble_eq_true rfl) (Nat.le_of_ble_eq_true rfl) dX3_turned_49
  exact LP FU _ _ _ _ h hR hS (lv_sub hl [1, 2, 3, 0] rfl)
set_option maxHeartbeats 4000000 in
set_option maxRecDepth 100000 in
theorem vX3_crowd {l : Launch} {E : EV} {a : Nat → Nat → Nat} {u0 : HS} {i0 : Nat} {x1 : Int32} {x2 : Int32} {out : Int32} (hi0 : i0 < cntS 3) (h : mX3_crowd u0 i0 x1 x2 = some out) : Ct l E yX3_crowd cX3_crowd 5 (some .int) 0 0 0 0 a u0 [.ref (a 3 i0), .int x1, .int x2] (some (.int out)) u0 := by
  refine Ct.start (by decide) (Nat.le_of_ble_eq_true rfl) ?_
  intro p e s m args below meth c ls C hr hR hS hl
  have C : Cx E p s m args meth c cX3_crowd 5 RX3 := C
  have hl : lv_has ls 5 [(0, .ref (a 3 i0)), (1, .int x1), (2, .int x2)] := hl
  have hx := C.1
  have hb := C.2.1
  unfold mX3_crowd at h
  refine lv_iconst (v := 0) hx hb dX3_crowd_0 (by decide) ?_
  refine lv_istore_n (lv' := [(3, .int 0), (0, .ref (a 3 i0)), (1, .int x1), (2, .int x2)]) hx hb dX3_crowd_1 rfl hl (by decide) rfl (fun ls hl => ?_)
  refine lv_iload_n hx hb dX3_crowd_2 rfl (lv_at hl 2 rfl) ?_
  refine lv_istore (lv' := [(4, .int x1), (3, .int 0), (0, .ref (a 3 i0)), (1, .int x1), (2, .int x2)]) hx hb dX3_crowd_3 hl (by decide) rfl (fun ls hl => ?_)
  refine jp_cut h (fun w104 hw104 h => ?_)
  have Kw104 : ∀ (x103 : Int32) (H : Heap) (locs : List Loc) (ls : Array Slot), w104 x103 = some out → Rel E a u0 H → va_S (AE E) s.heap H locs → lv_has ls 5 [(3, .int x103)] → W p l e { frames := 0, cells := 0, slots := 0, locals := 0 } s m args below meth c H locs 0 0 (MQ below (QW E a (some (.int out)) u0) args s 0 0 (AE E)) (F0 m 54 ls []) := by
    intro x103 H locs ls h hR hS hl
    replace h := jx1 hw104 h
    refine lv_iload_n hx hb dX3_crowd_54 rfl (lv_at hl 0 rfl) ?_
    cases h
    exact e_iret C hr hR hS (Nat.le_of_ble_eq_true rfl) (Nat.le_of_ble_eq_true rfl) dX3_crowd_55
  have LP : ∀ (fu : Nat) (x101 : Int32) (x102 : Int32) (H : Heap) (locs : List Loc) (ls : Array Slot), mX3_crowd_L5 u0 i0 x2 w104 fu x101 x102 = some out → Rel E a u0 H → va_S (AE E) s.heap H locs → lv_has ls 5 [(0, .ref (a 3 i0)), (2, .int x2), (3, .int x101), (4, .int x102)] → W p l e { frames := 0, cells := 0, slots := 0, locals := 0 } s m args below meth c H locs 0 0 (MQ below (QW E a (some (.int out)) u0) args s 0 0 (AE E)) (F0 m 5 ls []) := by
    intro fu
    induction fu with
    | zero =>
      intro x101 x102 H locs ls h
      have h2 : (none : Option Int32) = some out := h
      cases h2
    | succ fu ih =>
      intro x101 x102 H locs ls h hR hS hl
      rw [mX3_crowd_L5.eq_2] at h
      refine lv_iload hx hb dX3_crowd_5 (lv_at hl 3 rfl) ?_
      refine lv_if_lt (tgt := 54) hx hb dX3_crowd_7 (by decide) (fun c_105 => ?_) (fun c_105 => ?_)
      · rw [if_pos c_105] at h
        exact Kw104 _ _ _ _ h hR hS (lv_sub hl [2] rfl)
      · rw [if_neg c_105] at h
        refine lv_iload hx hb dX3_crowd_10 (lv_at hl 3 rfl) ?_
        refine lv_aload_n hx hb dX3_crowd_12 rfl (lv_at hl 0 rfl) ?_
        refine r_get C hR 3 i0 12 (v := .ref (a 42 i0)) (lv0 hi0 (by decide)) (by decide) (by decide) rfl fl_X3_49 dX3_crowd_13 ?_
        refine r_alen (n := gR u0 (3 + i0)) C hR 42 i0 0 (lv0 hi0 (by decide)) (by decide) rfl rfl rfl dX3_crowd_16 ?_
        refine lv_icmp_ge (tgt := 54) hx hb dX3_crowd_17 (by decide) (fun c_106 => ?_) (fun c_106 => ?_)
        · rw [if_pos c_106] at h
          exact Kw104 _ _ _ _ h hR hS (lv_sub hl [2] rfl)
        · rw [if_neg c_106] at h
          refine lv_aload_n hx hb dX3_crowd_20 rfl (lv_at hl 0 rfl) ?_
          refine r_get C hR 3 i0 12 (v := .ref (a 42 i0)) (lv0 hi0 (by decide)) (by decide) (by decide) rfl fl_X3_49 dX3_crowd_21 ?_
          refine lv_iload hx hb dX3_crowd_24 (lv_at hl 3 rfl) ?_
          obtain ⟨k107, hk107, h⟩ := ob h
          refine r_ald C hR 42 i0 (lv0 hi0 (by decide)) (by decide) rfl (fun _ => rfl) rfl hk107 dX3_crowd_26 ?_
          refine lv_iconst (v := (-1)) hx hb dX3_crowd_27 (by decide) ?_
          obtain ⟨x108, hz, h⟩ := ob h
          have Kj109 : ∀ (H : Heap) (locs : List Loc) (ls : Array Slot), Rel E a u0 H → va_S (AE E) s.heap H locs → lv_has ls 5 [(0, .ref (a 3 i0)), (2, .int x2), (3, .int x108), (4, .int x102)] → W p l e { frames := 0, cells := 0, slots := 0, locals := 0 } s m args below meth c H locs 0 0 (MQ below (QW E a (some (.int out)) u0) args s 0 0 (AE E)) (F0 m 45 ls []) := by
            intro H locs ls hR hS hl
            clear hz
            obtain ⟨x110, ex110⟩ : ∃ z : Int32, z = x102 + 300 := ⟨_, rfl⟩
            replace h := bd_x ex110 h
            refine lv_iincW (v := x110) (lv' := [(4, .int x110), (0, .ref (a 3 i0)), (2, .int x2), (3, .int x108)]) hx hb dX3_crowd_45 hl (k := 3) rfl (by rw [ex110]; rfl) (by decide) rfl (fun ls hl => ?_)
            refine lv_goto (tgt := 5) hx hb dX3_crowd_51 (by decide) ?_
            exact ih _ _ _ _ _ h hR hS (lv_sub hl [1, 2, 3, 0] rfl)
          clear h
          have h := hz
          clear hz
          refine lv_icmp_eq (tgt := 45) hx hb dX3_crowd_28 (by decide) (fun c_111 => ?_) (fun c_111 => ?_)
          · rw [if_pos c_111] at h
            cases h
            exact Kj109 _ _ _ hR hS (lv_sub hl [0, 1, 2, 3] rfl)
          · rw [if_neg c_111] at h
            refine lv_iload_n hx hb dX3_crowd_31 rfl (lv_at hl 2 rfl) ?_
            refine lv_iload_n hx hb dX3_crowd_32 rfl (lv_at hl 1 rfl) ?_
            refine lv_aload_n hx hb dX3_crowd_33 rfl (lv_at hl 0 rfl) ?_
            refine r_get C hR 3 i0 13 (v := .ref (a 43 i0)) (lv0 hi0 (by decide)) (by decide) (by decide) rfl fl_X3_52 dX3_crowd_34 ?_
            refine lv_iload hx hb dX3_crowd_37 (lv_at hl 3 rfl) ?_
            obtain ⟨k112, hk112, h⟩ := ob h
            refine r_ald C hR 43 i0 (lv0 hi0 (by decide)) (by decide) rfl (fun _ => rfl) rfl hk112 dX3_crowd_39 ?_
            refine lv_ishr hx hb dX3_crowd_40 ?_
            refine lv_iconst (v := 1) hx hb dX3_crowd_41 (by decide) ?_
            refine lv_iand hx hb dX3_crowd_42 ?_
            refine lv_iadd hx hb dX3_crowd_43 ?_
            refine lv_topi (fun x113 ex113 => ?_)
            replace h := bd_x ex113 h
            refine lv_istore_n (lv' := [(3, .int x113), (0, .ref (a 3 i0)), (2, .int x2), (4, .int x102)]) hx hb dX3_crowd_44 rfl hl (by decide) rfl (fun ls hl => ?_)
            cases h
            exact Kj109 _ _ _ hR hS (lv_sub hl [1, 2, 0, 3] rfl)
  exact LP FU _ _ _ _ _ h hR hS (lv_sub hl [2, 4, 1, 0] rfl)
set_option maxHeartbeats 4000000 in
set_option maxRecDepth 100000 in
theorem vX3_isThrownFrom {l : Launch} {E : EV} {a : Nat → Nat → Nat} {u0 : HS} {i0 : Nat} {x1 : Int32} {x2 : Int32} {out : Int32} (hi0 : i0 < cntS 3) (h : mX3_isThrownFrom u0 i0 x1 x2 = some out) : Ct l E yX3_isThrownFrom cX3_isThrownFrom 3 (some .boolean) 0 0 0 0 a u0 [.ref (a 3 i0), .int x1, .int x2] (some (.int out)) u0 := by
  refine Ct.start (by decide) (Nat.le_of_ble_eq_true rfl) ?_
  intro p e s m args below meth c ls C hr hR hS hl
  have C : Cx E p s m args meth c cX3_isThrownFrom 3 RX3 := C
  have hl : lv_has ls 3 [(0, .ref (a 3 i0)), (1, .int x1), (2, .int x2)] := hl
  have hx := C.1
  have hb := C.2.1
  unfold mX3_isThrownFrom at h
  refine lv_aload_n hx hb dX3_isThrownFrom_0 rfl (lv_at hl 0 rfl) ?_
  refine r_get C hR 3 i0 13 (v := .ref (a 43 i0)) (lv0 hi0 (by decide)) (by decide) (by decide) rfl fl_X3_52 dX3_isThrownFrom_1 ?_
  refine lv_aload_n hx hb dX3_isThrownFrom_4 rfl (lv_at hl 0 rfl) ?_
  refine r_get C hR 3 i0 6 (v := .ref (a 40 i0)) (lv0 hi0 (by decide)) (by decide) (by decide) rfl fl_X3_31 dX3_isThrownFrom_5 ?_
  refine lv_iload_n hx hb dX3_isThrownFrom_8 rfl (lv_at hl 1 rfl) ?_
  obtain ⟨k101, hk101, h⟩ := ob h
  refine r_ald C hR 40 i0 (lv0 hi0 (by decide)) (by decide) rfl (fun _ => rfl) rfl hk101 dX3_isThrownFrom_9 ?_
  refine lv_sipush (v := 300) hx hb dX3_isThrownFrom_10 (by decide) ?_
  refine lv_imul hx hb dX3_isThrownFrom_13 ?_
  refine lv_aload_n hx hb dX3_isThrownFrom_14 rfl (lv_at hl 0 rfl) ?_
  refine r_get C hR 3 i0 6 (v := .ref (a 40 i0)) (lv0 hi0 (by decide)) (by decide) (by decide) rfl fl_X3_31 dX3_isThrownFrom_15 ?_
  refine lv_iload_n hx hb dX3_isThrownFrom_18 rfl (lv_at hl 1 rfl) ?_
  refine lv_iconst (v := 2) hx hb dX3_isThrownFrom_19 (by decide) ?_
  refine lv_iadd hx hb dX3_isThrownFrom_20 ?_
  obtain ⟨k102, hk102, h⟩ := ob h
  refine r_ald C hR 40 i0 (lv0 hi0 (by decide)) (by decide) rfl (fun _ => rfl) rfl hk102 dX3_isThrownFrom_21 ?_
  refine lv_iadd hx hb dX3_isThrownFrom_22 ?_
  obtain ⟨k103, hk103, h⟩ := ob h
  refine r_ald C hR 43 i0 (lv0 hi0 (by decide)) (by decide) rfl (fun _ => rfl) rfl hk103 dX3_isThrownFrom_23 ?_
  refine lv_iload_n hx hb dX3_isThrownFrom_24 rfl (lv_at hl 2 rfl) ?_
  refine lv_icmp_ne (tgt := 32) hx hb dX3_isThrownFrom_25 (by decide) (fun c_104 => ?_) (fun c_104 => ?_)
  · rw [if_neg c_104] at h
    refine lv_iconst (v := 0) hx hb dX3_isThrownFrom_32 (by decide) ?_
    cases h
    exact e_zret (v := 0) C hr rfl hR hS (Nat.le_of_ble_eq_true rfl) (Nat.le_of_ble_eq_true rfl) dX3_isThrownFrom_33
  · rw [if_pos c_104] at h
    refine lv_iconst (v := 1) hx hb dX3_isThrownFrom_28 (by decide) ?_
    refine lv_goto (tgt := 33) hx hb dX3_isThrownFrom_29 (by decide) ?_
    cases h
    exact e_zret (v := 1) C hr rfl hR hS (Nat.le_of_ble_eq_true rfl) (Nat.le_of_ble_eq_true rfl) dX3_isThrownFrom_33
set_option maxHeartbeats 4000000 in
set_option maxRecDepth 100000 in
theorem vX3_throwsFrom {l : Launch} {E : EV} {a : Nat → Nat → Nat} {u0 : HS} {i0 : Nat} {x1 : Int32} {out : Int32} (hi0 : i0 < cntS 3) (h : mX3_throwsFrom u0 i0 x1 = some out) : Ct l E yX3_throwsFrom cX3_throwsFrom 4 (some .int) 1 22 0 0 a u0 [.ref (a 3 i0), .int x1] (some (.int out)) u0 := by
  refine Ct.start (by decide) (Nat.le_of_ble_eq_true rfl) ?_
  intro p e s m args below meth c ls C hr hR hS hl
  have C : Cx E p s m args meth c cX3_throwsFrom 4 RX3 := C
  have hl : lv_has ls 4 [(0, .ref (a 3 i0)), (1, .int x1)] := hl
  have hx := C.1
  have hb := C.2.1
  unfold mX3_throwsFrom at h
  refine lv_iconst (v := 0) hx hb dX3_throwsFrom_0 (by decide) ?_
  refine lv_istore_n (lv' := [(2, .int 0), (0, .ref (a 3 i0)), (1, .int x1)]) hx hb dX3_throwsFrom_1 rfl hl (by decide) rfl (fun ls hl => ?_)
  refine lv_iconst (v := 0) hx hb dX3_throwsFrom_2 (by decide) ?_
  refine lv_istore_n (lv' := [(3, .int 0), (2, .int 0), (0, .ref (a 3 i0)), (1, .int x1)]) hx hb dX3_throwsFrom_3 rfl hl (by decide) rfl (fun ls hl => ?_)
  refine jp_cut h (fun w104 hw104 h => ?_)
  have Kw104 : ∀ (x103 : Int32) (H : Heap) (locs : List Loc) (ls : Array Slot), w104 x103 = some out → Rel E a u0 H → va_S (AE E) s.heap H locs → lv_has ls 4 [(2, .int x103)] → W p l e { frames := 1, cells := 0, slots := 0, locals := 22 } s m args below meth c H locs 0 0 (MQ below (QW E a (some (.int out)) u0) args s 0 0 (AE E)) (F0 m 37 ls []) := by
    intro x103 H locs ls h hR hS hl
    replace h := jx1 hw104 h
    refine lv_iload_n hx hb dX3_throwsFrom_37 rfl (lv_at hl 0 rfl) ?_
    cases h
    exact e_iret C hr hR hS (Nat.le_of_ble_eq_true rfl) (Nat.le_of_ble_eq_true rfl) dX3_throwsFrom_38
  have LP : ∀ (fu : Nat) (x101 : Int32) (x102 : Int32) (H : Heap) (locs : List Loc) (ls : Array Slot), mX3_throwsFrom_L4 u0 i0 x1 w104 fu x101 x102 = some out → Rel E a u0 H → va_S (AE E) s.heap H locs → lv_has ls 4 [(0, .ref (a 3 i0)), (1, .int x1), (2, .int x101), (3, .int x102)] → W p l e { frames := 1, cells := 0, slots := 0, locals := 22 } s m args below meth c H locs 0 0 (MQ below (QW E a (some (.int out)) u0) args s 0 0 (AE E)) (F0 m 4 ls []) := by
    intro fu
    induction fu with
    | zero =>
      intro x101 x102 H locs ls h
      have h2 : (none : Option Int32) = some out := h
      cases h2
    | succ fu ih =>
      intro x101 x102 H locs ls h hR hS hl
      rw [mX3_throwsFrom_L4.eq_2] at h
      refine lv_iload_n hx hb dX3_throwsFrom_4 rfl (lv_at hl 3 rfl) ?_
      refine lv_aload_n hx hb dX3_throwsFrom_5 rfl (lv_at hl 0 rfl) ?_
      refine r_get C hR 3 i0 5 (v := .int (gI u0 3 i0 5)) (lv0 hi0 (by decide)) (by decide) (by decide) rfl fl_X3_28 dX3_throwsFrom_6 ?_
      refine lv_icmp_ge (tgt := 37) hx hb dX3_throwsFrom_9 (by decide) (fun c_105 => ?_) (fun c_105 => ?_)
      · rw [if_pos c_105] at h
        exact Kw104 _ _ _ _ h hR hS (lv_sub hl [2] rfl)
      · rw [if_neg c_105] at h
        refine lv_iload_n hx hb dX3_throwsFrom_12 rfl (lv_at hl 2 rfl) ?_
        refine lv_aload_n hx hb dX3_throwsFrom_13 rfl (lv_at hl 0 rfl) ?_
        refine lv_iload_n hx hb dX3_throwsFrom_14 rfl (lv_at hl 3 rfl) ?_
        refine lv_iconst (v := 3) hx hb dX3_throwsFrom_15 (by decide) ?_
        refine lv_imul hx hb dX3_throwsFrom_16 ?_
        refine lv_iload_n hx hb dX3_throwsFrom_17 rfl (lv_at hl 1 rfl) ?_
        obtain ⟨x107, hc106, h⟩ := ob h
        refine r_callV1 (As := [.int (x102 * 3), .int x1]) (rest := [.int x101]) (r := 3) (i := i0) C (vX3_isThrownFrom hi0 hc106) hR hS (lv0 hi0 (by decide)) (by decide) ml_X3_125 mw_X3_isThrownFrom rfl ⟨Nat.le_of_ble_eq_true rfl, Nat.le_of_ble_eq_true rfl, Nat.le_of_ble_eq_true rfl, Nat.le_of_ble_eq_true rfl⟩ hl.1 rfl (Nat.le_of_ble_eq_true rfl) dX3_throwsFrom_18 (fun H locs hR hS => ?_)
        obtain ⟨x108, hz, h⟩ := ob h
        have Kj109 : ∀ (H : Heap) (locs : List Loc) (ls : Array Slot), Rel E a u0 H → va_S (AE E) s.heap H locs → lv_has ls 4 [(0, .ref (a 3 i0)), (1, .int x1), (3, .int x102)] → W p l e { frames := 1, cells := 0, slots := 0, locals := 22 } s m args below meth c H locs 0 0 (MQ below (QW E a (some (.int out)) u0) args s 0 0 (AE E)) (F0 m 29 ls [.int x108, .int x101]) := by
          intro H locs ls hR hS hl
          clear hz
          refine lv_iadd hx hb dX3_throwsFrom_29 ?_
          refine lv_topi (fun x110 ex110 => ?_)
          replace h := bd_x ex110 h
          refine lv_istore_n (lv' := [(2, .int x110), (0, .ref (a 3 i0)), (1, .int x1), (3, .int x102)]) hx hb dX3_throwsFrom_30 rfl hl (by decide) rfl (fun ls hl => ?_)
          obtain ⟨x111, ex111⟩ : ∃ z : Int32, z = x102 + 1 := ⟨_, rfl⟩
          replace h := bd_x ex111 h
          refine lv_iinc (v := x111) (lv' := [(3, .int x111), (2, .int x110), (0, .ref (a 3 i0)), (1, .int x1)]) hx hb dX3_throwsFrom_31 hl (k := 3) rfl (by rw [ex111]; rfl) (by decide) rfl (fun ls hl => ?_)
          refine lv_goto (tgt := 4) hx hb dX3_throwsFrom_34 (by decide) ?_
          exact ih _ _ _ _ _ h hR hS (lv_sub hl [2, 3, 1, 0] rfl)
        clear h
        have h := hz
        clear hz
        refine lv_if_eq (tgt := 28) hx hb dX3_throwsFrom_21 (by decide) (fun c_112 => ?_) (fun c_112 => ?_)
        · rw [if_pos c_112] at h
          refine lv_iconst (v := 0) hx hb dX3_throwsFrom_28 (by decide) ?_
          cases h
          exact Kj109 _ _ _ hR hS (lv_sub hl [0, 1, 3] rfl)
        · rw [if_neg c_112] at h
          refine lv_iconst (v := 1) hx hb dX3_throwsFrom_24 (by decide) ?_
          refine lv_goto (tgt := 29) hx hb dX3_throwsFrom_25 (by decide) ?_
          cases h
          exact Kj109 _ _ _ hR hS (lv_sub hl [0, 1, 3] rfl)
  exact LP FU _ _ _ _ _ h hR hS (lv_sub hl [2, 3, 1, 0] rfl)
set_option maxHeartbeats 4000000 in
set_option maxRecDepth 100000 in
theorem vX4_plain {l : Launch} {E : EV} {a : Nat → Nat → Nat} {u0 : HS}  {out : HS} (h : mX4_plain u0 = some out) : Ct l E yX4_plain cX4_plain 1 none 0 0 0 0 a u0 [.ref (a 4 0)] none out := by
  refine Ct.start (by decide) (Nat.le_of_ble_eq_true rfl) ?_
  intro p e s m args below meth c ls C hr hR hS hl
  have C : Cx E p s m args meth c cX4_plain 1 RX4 := C
  have hl : lv_has ls 1 [(0, .ref (a 4 0))] := hl
  have hx := C.1
  have hb := C.2.1
  unfold mX4_plain at h
  refine lv_aload_n hx hb dX4_plain_0 rfl (lv_at hl 0 rfl) ?_
  refine lv_iconst (v := (-1)) hx hb dX4_plain_1 (by decide) ?_
  refine r_putI (ty := .int) C hR hS 4 0 3 (lv0 (by decide) (by decide)) (by decide) (by decide) (fun _ => rfl) fl_X4_19 (by decide) (by decide +kernel) rfl rfl dX4_plain_2 (fun H locs hR hS => ?_)
  obtain ⟨u101, eu101⟩ : ∃ z : HS, z = wI u0 4 0 3 (-1) := ⟨_, rfl⟩
  rw [← eu101] at hR
  replace h := bd_x eu101 h
  clear eu101
  refine lv_aload_n hx hb dX4_plain_5 rfl (lv_at hl 0 rfl) ?_
  refine lv_iconst (v := 0) hx hb dX4_plain_6 (by decide) ?_
  refine r_putI (ty := .boolean) C hR hS 4 0 5 (lv0 (by decide) (by decide)) (by decide) (by decide) (fun _ => rfl) fl_X4_25 (by decide) (by decide +kernel) rfl rfl dX4_plain_7 (fun H locs hR hS => ?_)
  obtain ⟨u102, eu102⟩ : ∃ z : HS, z = wI u101 4 0 5 0 := ⟨_, rfl⟩
  rw [← eu102] at hR
  replace h := bd_x eu102 h
  clear eu102
  cases h
  exact e_vret C hr hR hS (Nat.le_of_ble_eq_true rfl) (Nat.le_of_ble_eq_true rfl) dX4_plain_10
set_option maxHeartbeats 4000000 in
set_option maxRecDepth 100000 in
theorem vX4_drawBy {l : Launch} {E : EV} {a : Nat → Nat → Nat} {u0 : HS} {x1 : Int32} {x2 : Int32} {out : HS} (h : mX4_drawBy u0 x1 x2 = some out) : Ct l E yX4_drawBy cX4_drawBy 3 none 0 0 0 0 a u0 [.ref (a 4 0), .int x1, .int x2] none out := by
  refine Ct.start (by decide) (Nat.le_of_ble_eq_true rfl) ?_
  intro p e s m args below meth c ls C hr hR hS hl
  have C : Cx E p s m args meth c cX4_drawBy 3 RX4 := C
  have hl : lv_has ls 3 [(0, .ref (a 4 0)), (1, .int x1), (2, .int x2)] := hl
  have hx := C.1
  have hb := C.2.1
  unfold mX4_drawBy at h
  refine lv_aload_n hx hb dX4_drawBy_0 rfl (lv_at hl 0 rfl) ?_
  refine lv_iload_n hx hb dX4_drawBy_1 rfl (lv_at hl 1 rfl) ?_
  refine r_putI (ty := .int) C hR hS 4 0 3 (lv0 (by decide) (by decide)) (by decide) (by decide) (fun _ => rfl) fl_X4_19 (by decide) (by decide +kernel) rfl rfl dX4_drawBy_2 (fun H locs hR hS => ?_)
  obtain ⟨u101, eu101⟩ : ∃ z : HS, z = wI u0 4 0 3 x1 := ⟨_, rfl⟩
  rw [← eu101] at hR
  replace h := bd_x eu101 h
  clear eu101
  refine lv_aload_n hx hb dX4_drawBy_5 rfl (lv_at hl 0 rfl) ?_
  refine lv_iload_n hx hb dX4_drawBy_6 rfl (lv_at hl 2 rfl) ?_
  refine r_putI (ty := .int) C hR hS 4 0 4 (lv0 (by decide) (by decide)) (by decide) (by decide) (fun _ => rfl) fl_X4_22 (by decide) (by decide +kernel) rfl rfl dX4_drawBy_7 (fun H locs hR hS => ?_)
  obtain ⟨u102, eu102⟩ : ∃ z : HS, z = wI u101 4 0 4 x2 := ⟨_, rfl⟩
  rw [← eu102] at hR
  replace h := bd_x eu102 h
  clear eu102
  cases h
  exact e_vret C hr hR hS (Nat.le_of_ble_eq_true rfl) (Nat.le_of_ble_eq_true rfl) dX4_drawBy_10
set_option maxHeartbeats 4000000 in
set_option maxRecDepth 100000 in
theorem vX4_heedChangesAlone {l : Launch} {E : EV} {a : Nat → Nat → Nat} {u0 : HS}  {out : HS} (h : mX4_heedChangesAlone u0 = some out) : Ct l E yX4_heedChangesAlone cX4_heedChangesAlone 1 none 0 0 0 0 a u0 [.ref (a 4 0)] none out := by
  refine Ct.start (by decide) (Nat.le_of_ble_eq_true rfl) ?_
  intro p e s m args below meth c ls C hr hR hS hl
  have C : Cx E p s m args meth c cX4_heedChangesAlone 1 RX4 := C
  have hl : lv_has ls 1 [(0, .ref (a 4 0))] := hl
  have hx := C.1
  have hb := C.2.1
  unfold mX4_heedChangesAlone at h
  refine lv_aload_n hx hb dX4_heedChangesAlone_0 rfl (lv_at hl 0 rfl) ?_
  refine lv_iconst (v := 1) hx hb dX4_heedChangesAlone_1 (by decide) ?_
  refine r_putI (ty := .boolean) C hR hS 4 0 5 (lv0 (by decide) (by decide)) (by decide) (by decide) (fun _ => rfl) fl_X4_25 (by decide) (by decide +kernel) rfl rfl dX4_heedChangesAlone_2 (fun H locs hR hS => ?_)
  obtain ⟨u101, eu101⟩ : ∃ z : HS, z = wI u0 4 0 5 1 := ⟨_, rfl⟩
  rw [← eu101] at hR
  replace h := bd_x eu101 h
  clear eu101
  cases h
  exact e_vret C hr hR hS (Nat.le_of_ble_eq_true rfl) (Nat.le_of_ble_eq_true rfl) dX4_heedChangesAlone_5
set_option maxHeartbeats 4000000 in
set_option maxRecDepth 100000 in
theorem vX4_joined {l : Launch} {E : EV} {a : Nat → Nat → Nat} {u0 : HS} {x0 : Int32} {x1 : Int32} {x2 : Int32} {out : Int32} (h : mX4_joined x0 x1 x2 = some out) : Ct l E yX4_joined cX4_joined 3 (some .int) 0 0 0 0 a u0 [.int x0, .int x1, .int x2] (some (.int out)) u0 := by
  refine Ct.start (by decide) (Nat.le_of_ble_eq_true rfl) ?_
  intro p e s m args below meth c ls C hr hR hS hl
  have C : Cx E p s m args meth c cX4_joined 3 RX4 := C
  have hl : lv_has ls 3 [(0, .int x0), (1, .int x1), (2, .int x2)] := hl
  have hx := C.1
  have hb := C.2.1
  unfold mX4_joined at h
  refine lv_iload_n hx hb dX4_joined_0 rfl (lv_at hl 0 rfl) ?_
  by_cases c_101 : x0 = (-29)
  · rw [if_pos c_101] at h
    refine sw_in c_101 hx hb dX4_joined_1 (by decide) (by decide) rfl (by decide) (tgt := 135) ?_
    refine lv_iload_n hx hb dX4_joined_135 rfl (lv_at hl 1 rfl) ?_
    refine lv_iload_n hx hb dX4_joined_136 rfl (lv_at hl 2 rfl) ?_
    refine lv_iand hx hb dX4_joined_137 ?_
    cases h
    exact e_iret C hr hR hS (Nat.le_of_ble_eq_true rfl) (Nat.le_of_ble_eq_true rfl) dX4_joined_138
  rw [if_neg c_101] at h
  by_cases c_102 : x0 = (-28)
  · rw [if_pos c_102] at h
    refine sw_in c_102 hx hb dX4_joined_1 (by decide) (by decide) rfl (by decide) (tgt := 124) ?_
    refine lv_iload_n hx hb dX4_joined_124 rfl (lv_at hl 1 rfl) ?_
    refine lv_iload_n hx hb dX4_joined_125 rfl (lv_at hl 2 rfl) ?_
    refine lv_icmp_ne (tgt := 133) hx hb dX4_joined_126 (by decide) (fun c_103 => ?_) (fun c_103 => ?_)
    · rw [if_neg c_103] at h
      refine lv_iconst (v := 0) hx hb dX4_joined_133 (by decide) ?_
      cases h
      exact e_iret C hr hR hS (Nat.le_of_ble_eq_true rfl) (Nat.le_of_ble_eq_true rfl) dX4_joined_134
    · rw [if_pos c_103] at h
      refine lv_iconst (v := 1) hx hb dX4_joined_129 (by decide) ?_
      refine lv_goto (tgt := 134) hx hb dX4_joined_130 (by decide) ?_
      cases h
      exact e_iret C hr hR hS (Nat.le_of_ble_eq_true rfl) (Nat.le_of_ble_eq_true rfl) dX4_joined_134
  rw [if_neg c_102] at h
  by_cases c_104 : x0 = (-27)
  · rw [if_pos c_104] at h
    refine sw_in c_104 hx hb dX4_joined_1 (by decide) (by decide) rfl (by decide) (tgt := 113) ?_
    refine lv_iload_n hx hb dX4_joined_113 rfl (lv_at hl 1 rfl) ?_
    refine lv_iload_n hx hb dX4_joined_114 rfl (lv_at hl 2 rfl) ?_
    refine lv_icmp_le (tgt := 122) hx hb dX4_joined_115 (by decide) (fun c_105 => ?_) (fun c_105 => ?_)
    · rw [if_pos c_105] at h
      refine lv_iconst (v := 0) hx hb dX4_joined_122 (by decide) ?_
      cases h
      exact e_iret C hr hR hS (Nat.le_of_ble_eq_true rfl) (Nat.le_of_ble_eq_true rfl) dX4_joined_123
    · rw [if_neg c_105] at h
      refine lv_iconst (v := 1) hx hb dX4_joined_118 (by decide) ?_
      refine lv_goto (tgt := 123) hx hb dX4_joined_119 (by decide) ?_
      cases h
      exact e_iret C hr hR hS (Nat.le_of_ble_eq_true rfl) (Nat.le_of_ble_eq_true rfl) dX4_joined_123
  rw [if_neg c_104] at h
  by_cases c_106 : x0 = (-26)
  · rw [if_pos c_106] at h
    refine sw_in c_106 hx hb dX4_joined_1 (by decide) (by decide) rfl (by decide) (tgt := 102) ?_
    refine lv_iload_n hx hb dX4_joined_102 rfl (lv_at hl 1 rfl) ?_
    refine lv_iload_n hx hb dX4_joined_103 rfl (lv_at hl 2 rfl) ?_
    refine lv_icmp_ge (tgt := 111) hx hb dX4_joined_104 (by decide) (fun c_107 => ?_) (fun c_107 => ?_)
    · rw [if_pos c_107] at h
      refine lv_iconst (v := 0) hx hb dX4_joined_111 (by decide) ?_
      cases h
      exact e_iret C hr hR hS (Nat.le_of_ble_eq_true rfl) (Nat.le_of_ble_eq_true rfl) dX4_joined_112
    · rw [if_neg c_107] at h
      refine lv_iconst (v := 1) hx hb dX4_joined_107 (by decide) ?_
      refine lv_goto (tgt := 112) hx hb dX4_joined_108 (by decide) ?_
      cases h
      exact e_iret C hr hR hS (Nat.le_of_ble_eq_true rfl) (Nat.le_of_ble_eq_true rfl) dX4_joined_112
  rw [if_neg c_106] at h
  by_cases c_108 : x0 = (-25)
  · rw [if_pos c_108] at h
    refine sw_in c_108 hx hb dX4_joined_1 (by decide) (by decide) rfl (by decide) (tgt := 91) ?_
    refine lv_iload_n hx hb dX4_joined_91 rfl (lv_at hl 1 rfl) ?_
    refine lv_iload_n hx hb dX4_joined_92 rfl (lv_at hl 2 rfl) ?_
    refine lv_icmp_le (tgt := 100) hx hb dX4_joined_93 (by decide) (fun c_109 => ?_) (fun c_109 => ?_)
    · rw [if_pos c_109] at h
      refine lv_iload_n hx hb dX4_joined_100 rfl (lv_at hl 2 rfl) ?_
      cases h
      exact e_iret C hr hR hS (Nat.le_of_ble_eq_true rfl) (Nat.le_of_ble_eq_true rfl) dX4_joined_101
    · rw [if_neg c_109] at h
      refine lv_iload_n hx hb dX4_joined_96 rfl (lv_at hl 1 rfl) ?_
      refine lv_goto (tgt := 101) hx hb dX4_joined_97 (by decide) ?_
      cases h
      exact e_iret C hr hR hS (Nat.le_of_ble_eq_true rfl) (Nat.le_of_ble_eq_true rfl) dX4_joined_101
  rw [if_neg c_108] at h
  by_cases c_110 : x0 = (-24)
  · rw [if_pos c_110] at h
    refine sw_in c_110 hx hb dX4_joined_1 (by decide) (by decide) rfl (by decide) (tgt := 80) ?_
    refine lv_iload_n hx hb dX4_joined_80 rfl (lv_at hl 1 rfl) ?_
    refine lv_iload_n hx hb dX4_joined_81 rfl (lv_at hl 2 rfl) ?_
    refine lv_icmp_ge (tgt := 89) hx hb dX4_joined_82 (by decide) (fun c_111 => ?_) (fun c_111 => ?_)
    · rw [if_pos c_111] at h
      refine lv_iload_n hx hb dX4_joined_89 rfl (lv_at hl 2 rfl) ?_
      cases h
      exact e_iret C hr hR hS (Nat.le_of_ble_eq_true rfl) (Nat.le_of_ble_eq_true rfl) dX4_joined_90
    · rw [if_neg c_111] at h
      refine lv_iload_n hx hb dX4_joined_85 rfl (lv_at hl 1 rfl) ?_
      refine lv_goto (tgt := 90) hx hb dX4_joined_86 (by decide) ?_
      cases h
      exact e_iret C hr hR hS (Nat.le_of_ble_eq_true rfl) (Nat.le_of_ble_eq_true rfl) dX4_joined_90
  rw [if_neg c_110] at h
  by_cases c_112 : x0 = (-23)
  · rw [if_pos c_112] at h
    refine sw_in c_112 hx hb dX4_joined_1 (by decide) (by decide) rfl (by decide) (tgt := 68) ?_
    refine lv_iload_n hx hb dX4_joined_68 rfl (lv_at hl 2 rfl) ?_
    refine lv_if_ne (tgt := 76) hx hb dX4_joined_69 (by decide) (fun c_113 => ?_) (fun c_113 => ?_)
    · rw [if_neg c_113] at h
      refine lv_iload_n hx hb dX4_joined_76 rfl (lv_at hl 1 rfl) ?_
      refine lv_iload_n hx hb dX4_joined_77 rfl (lv_at hl 2 rfl) ?_
      obtain ⟨_, hn114, h⟩ := ob h
      refine lv_idiv hx hb dX4_joined_78 (nz_ne hn114) ?_
      cases h
      exact e_iret C hr hR hS (Nat.le_of_ble_eq_true rfl) (Nat.le_of_ble_eq_true rfl) dX4_joined_79
    · rw [if_pos c_113] at h
      refine lv_iconst (v := 0) hx hb dX4_joined_72 (by decide) ?_
      refine lv_goto (tgt := 79) hx hb dX4_joined_73 (by decide) ?_
      cases h
      exact e_iret C hr hR hS (Nat.le_of_ble_eq_true rfl) (Nat.le_of_ble_eq_true rfl) dX4_joined_79
  rw [if_neg c_112] at h
  by_cases c_115 : x0 = (-22)
  · rw [if_pos c_115] at h
    refine sw_in c_115 hx hb dX4_joined_1 (by decide) (by decide) rfl (by decide) (tgt := 64) ?_
    refine lv_iload_n hx hb dX4_joined_64 rfl (lv_at hl 1 rfl) ?_
    refine lv_iload_n hx hb dX4_joined_65 rfl (lv_at hl 2 rfl) ?_
    refine lv_imul hx hb dX4_joined_66 ?_
    cases h
    exact e_iret C hr hR hS (Nat.le_of_ble_eq_true rfl) (Nat.le_of_ble_eq_true rfl) dX4_joined_67
  rw [if_neg c_115] at h
  by_cases c_116 : x0 = (-21)
  · rw [if_pos c_116] at h
    refine sw_in c_116 hx hb dX4_joined_1 (by decide) (by decide) rfl (by decide) (tgt := 60) ?_
    refine lv_iload_n hx hb dX4_joined_60 rfl (lv_at hl 1 rfl) ?_
    refine lv_iload_n hx hb dX4_joined_61 rfl (lv_at hl 2 rfl) ?_
    refine lv_isub hx hb dX4_joined_62 ?_
    cases h
    exact e_iret C hr hR hS (Nat.le_of_ble_eq_true rfl) (Nat.le_of_ble_eq_true rfl) dX4_joined_63
  rw [if_neg c_116] at h
  by_cases c_117 : x0 = (-20)
  · rw [if_pos c_117] at h
    refine sw_in c_117 hx hb dX4_joined_1 (by decide) (by decide) rfl (by decide) (tgt := 56) ?_
    refine lv_iload_n hx hb dX4_joined_56 rfl (lv_at hl 1 rfl) ?_
    refine lv_iload_n hx hb dX4_joined_57 rfl (lv_at hl 2 rfl) ?_
    refine lv_iadd hx hb dX4_joined_58 ?_
    cases h
    exact e_iret C hr hR hS (Nat.le_of_ble_eq_true rfl) (Nat.le_of_ble_eq_true rfl) dX4_joined_59
  rw [if_neg c_117] at h
  refine lv_tableOut (tgt := 139) hx hb dX4_joined_1 (by have z0 := sw_ne (k := -29) c_101 rfl; have z1 := sw_ne (k := -28) c_102 rfl; have z2 := sw_ne (k := -27) c_104 rfl; have z3 := sw_ne (k := -26) c_106 rfl; have z4 := sw_ne (k := -25) c_108 rfl; have z5 := sw_ne (k := -24) c_110 rfl; have z6 := sw_ne (k := -23) c_112 rfl; have z7 := sw_ne (k := -22) c_115 rfl; have z8 := sw_ne (k := -21) c_116 rfl; have z9 := sw_ne (k := -20) c_117 rfl; omega) (by decide) ?_
  refine lv_iload_n hx hb dX4_joined_139 rfl (lv_at hl 1 rfl) ?_
  refine lv_iload_n hx hb dX4_joined_140 rfl (lv_at hl 2 rfl) ?_
  refine lv_ior hx hb dX4_joined_141 ?_
  cases h
  exact e_iret C hr hR hS (Nat.le_of_ble_eq_true rfl) (Nat.le_of_ble_eq_true rfl) dX4_joined_142
set_option maxHeartbeats 4000000 in
set_option maxRecDepth 100000 in
theorem vX4_work {l : Launch} {E : EV} {a : Nat → Nat → Nat} {u0 : HS} {i1 : Nat} {x2 : Int32} {x3 : Int32} {out : (Int32 × HS)} (hi1 : i1 < cntS 1) (h : mX4_work u0 i1 x2 x3 = some out) : Ct l E yX4_work cX4_work 7 (some .int) 1 22 0 0 a u0 [.ref (a 4 0), .ref (a 1 i1), .int x2, .int x3] (some (.int out.1)) out.2 := by
  refine Ct.start (by decide) (Nat.le_of_ble_eq_true rfl) ?_
  intro p e s m args below meth c ls C hr hR hS hl
  have C : Cx E p s m args meth c cX4_work 7 RX4 := C
  have hl : lv_has ls 7 [(0, .ref (a 4 0)), (1, .ref (a 1 i1)), (2, .int x2), (3, .int x3)] := hl
  have hx := C.1
  have hb := C.2.1
  unfold mX4_work at h
  refine lv_iconst (v := 0) hx hb dX4_work_0 (by decide) ?_
  refine lv_istore (lv' := [(4, .int 0), (0, .ref (a 4 0)), (1, .ref (a 1 i1)), (2, .int x2), (3, .int x3)]) hx hb dX4_work_1 hl (by decide) rfl (fun ls hl => ?_)
  refine lv_iload_n hx hb dX4_work_3 rfl (lv_at hl 3 rfl) ?_
  refine lv_istore (lv' := [(5, .int x2), (4, .int 0), (0, .ref (a 4 0)), (1, .ref (a 1 i1)), (2, .int x2), (3, .int x3)]) hx hb dX4_work_4 hl (by decide) rfl (fun ls hl => ?_)
  refine jp_cut h (fun w106 hw106 h => ?_)
  have Kw106 : ∀ (x104 : Int32) (u105 : HS) (H : Heap) (locs : List Loc) (ls : Array Slot), w106 x104 u105 = some out → Rel E a u105 H → va_S (AE E) s.heap H locs → lv_has ls 7 [(0, .ref (a 4 0)), (4, .int x104)] → W p l e { frames := 1, cells := 0, slots := 0, locals := 22 } s m args below meth c H locs 0 0 (MQ below (QW E a (some (.int out.1)) out.2) args s 0 0 (AE E)) (F0 m 156 ls []) := by
    intro x104 u105 H locs ls h hR hS hl
    replace h := jx2 hw106 h
    refine lv_iload hx hb dX4_work_156 (lv_at hl 1 rfl) ?_
    refine lv_if_ne (tgt := 165) hx hb dX4_work_158 (by decide) (fun c_107 => ?_) (fun c_107 => ?_)
    · rw [if_neg c_107] at h
      refine lv_aload_n hx hb dX4_work_165 rfl (lv_at hl 0 rfl) ?_
      refine r_get C hR 4 0 1 (v := .ref (a 44 0)) (lv0 (by decide) (by decide)) (by decide) (by decide) rfl fl_X4_11 dX4_work_166 ?_
      refine lv_iconst (v := 0) hx hb dX4_work_169 (by decide) ?_
      obtain ⟨k108, hk108, h⟩ := ob h
      refine r_ald C hR 44 0 (lv0 (by decide) (by decide)) (by decide) rfl (fun _ => rfl) rfl hk108 dX4_work_170 ?_
      cases h
      exact e_iret C hr hR hS (Nat.le_of_ble_eq_true rfl) (Nat.le_of_ble_eq_true rfl) dX4_work_171
    · rw [if_pos c_107] at h
      refine lv_iconst (v := 1) hx hb dX4_work_161 (by decide) ?_
      refine lv_goto (tgt := 171) hx hb dX4_work_162 (by decide) ?_
      cases h
      exact e_iret C hr hR hS (Nat.le_of_ble_eq_true rfl) (Nat.le_of_ble_eq_true rfl) dX4_work_171
  have LP : ∀ (fu : Nat) (x101 : Int32) (x102 : Int32) (u103 : HS) (H : Heap) (locs : List Loc) (ls : Array Slot), mX4_work_L6 x3 i1 w106 fu x101 x102 u103 = some out → Rel E a u103 H → va_S (AE E) s.heap H locs → lv_has ls 7 [(0, .ref (a 4 0)), (1, .ref (a 1 i1)), (3, .int x3), (4, .int x101), (5, .int x102)] → W p l e { frames := 1, cells := 0, slots := 0, locals := 22 } s m args below meth c H locs 0 0 (MQ below (QW E a (some (.int out.1)) out.2) args s 0 0 (AE E)) (F0 m 6 ls []) := by
    intro fu
    induction fu with
    | zero =>
      intro x101 x102 u103 H locs ls h
      have h2 : (none : Option (Int32 × HS)) = some out := h
      cases h2
    | succ fu ih =>
      intro x101 x102 u103 H locs ls h hR hS hl
      rw [mX4_work_L6.eq_2] at h
      refine lv_iload hx hb dX4_work_6 (lv_at hl 4 rfl) ?_
      refine lv_iload_n hx hb dX4_work_8 rfl (lv_at hl 2 rfl) ?_
      refine lv_icmp_ge (tgt := 156) hx hb dX4_work_9 (by decide) (fun c_109 => ?_) (fun c_109 => ?_)
      · rw [if_pos c_109] at h
        exact Kw106 _ _ _ _ _ h hR hS (lv_sub hl [0, 3] rfl)
      · rw [if_neg c_109] at h
        refine lv_aload_n hx hb dX4_work_12 rfl (lv_at hl 1 rfl) ?_
        refine r_get C hR 1 i1 0 (v := .ref (a 32 i1)) (lv0 hi1 (by decide)) (by decide) (by decide) rfl fl_X4_33 dX4_work_13 ?_
        refine lv_iload hx hb dX4_work_16 (lv_at hl 4 rfl) ?_
        obtain ⟨k110, hk110, h⟩ := ob h
        refine r_ald C hR 32 i1 (lv0 hi1 (by decide)) (by decide) rfl (fun _ => rfl) rfl hk110 dX4_work_18 ?_
        refine lv_topi (fun x111 ex111 => ?_)
        replace h := bd_x ex111 h
        refine lv_istore (lv' := [(6, .int x111), (0, .ref (a 4 0)), (1, .ref (a 1 i1)), (3, .int x3), (4, .int x101), (5, .int x102)]) hx hb dX4_work_19 hl (by decide) rfl (fun ls hl => ?_)
        refine lv_iload hx hb dX4_work_21 (lv_at hl 0 rfl) ?_
        refine lv_bipush (v := (-11)) hx hb dX4_work_23 (by decide) ?_
        refine jp_cut h (fun j114 hj114 h => ?_)
        have Kj114 : ∀ (x112 : Int32) (u113 : HS) (H : Heap) (locs : List Loc) (ls : Array Slot), j114 x112 u113 = some out → Rel E a u113 H → va_S (AE E) s.heap H locs → lv_has ls 7 [(0, .ref (a 4 0)), (1, .ref (a 1 i1)), (3, .int x3), (4, .int x112), (5, .int x102)] → W p l e { frames := 1, cells := 0, slots := 0, locals := 22 } s m args below meth c H locs 0 0 (MQ below (QW E a (some (.int out.1)) out.2) args s 0 0 (AE E)) (F0 m 150 ls []) := by
          intro x112 u113 H locs ls h hR hS hl
          replace h := jx2 hj114 h
          obtain ⟨x115, ex115⟩ : ∃ z : Int32, z = x102 + 1 := ⟨_, rfl⟩
          replace h := bd_x ex115 h
          refine lv_iinc (v := x115) (lv' := [(5, .int x115), (0, .ref (a 4 0)), (1, .ref (a 1 i1)), (3, .int x3), (4, .int x112)]) hx hb dX4_work_150 hl (k := 4) rfl (by rw [ex115]; rfl) (by decide) rfl (fun ls hl => ?_)
          refine lv_goto (tgt := 6) hx hb dX4_work_153 (by decide) ?_
          exact ih _ _ _ _ _ _ h hR hS (lv_sub hl [1, 2, 3, 4, 0] rfl)
        refine jp_cut h (fun j116 hj116 h => ?_)
        have Kj116 : ∀  (H : Heap) (locs : List Loc) (ls : Array Slot), j116 = some out → Rel E a u103 H → va_S (AE E) s.heap H locs → lv_has ls 7 [(0, .ref (a 4 0)), (1, .ref (a 1 i1)), (3, .int x3), (4, .int x101), (5, .int x102), (6, .int x111)] → W p l e { frames := 1, cells := 0, slots := 0, locals := 22 } s m args below meth c H locs 0 0 (MQ below (QW E a (some (.int out.1)) out.2) args s 0 0 (AE E)) (F0 m 70 ls []) := by
          intro  H locs ls h hR hS hl
          replace h := jx0 hj116 h
          refine lv_iload hx hb dX4_work_70 (lv_at hl 5 rfl) ?_
          refine lv_bipush (v := (-31)) hx hb dX4_work_72 (by decide) ?_
          refine jp_cut h (fun j117 hj117 h => ?_)
          have Kj117 : ∀  (H : Heap) (locs : List Loc) (ls : Array Slot), j117 = some out → Rel E a u103 H → va_S (AE E) s.heap H locs → lv_has ls 7 [(0, .ref (a 4 0)), (1, .ref (a 1 i1)), (3, .int x3), (4, .int x101), (5, .int x102), (6, .int x111)] → W p l e { frames := 1, cells := 0, slots := 0, locals := 22 } s m args below meth c H locs 0 0 (MQ below (QW E a (some (.int out.1)) out.2) args s 0 0 (AE E)) (F0 m 111 ls []) := by
            intro  H locs ls h hR hS hl
            replace h := jx0 hj117 h
            refine lv_iload hx hb dX4_work_111 (lv_at hl 3 rfl) ?_
            refine lv_iconst (v := 1) hx hb dX4_work_113 (by decide) ?_
            refine lv_icmp_le (tgt := 150) hx hb dX4_work_114 (by decide) (fun c_118 => ?_) (fun c_118 => ?_)
            · rw [if_pos c_118] at h
              exact Kj114 _ _ _ _ _ h hR hS (lv_sub hl [0, 1, 2, 3, 4] rfl)
            · rw [if_neg c_118] at h
              obtain ⟨x119, ex119⟩ : ∃ z : Int32, z = x101 + (-1) := ⟨_, rfl⟩
              replace h := bd_x ex119 h
              refine lv_iinc (v := x119) (lv' := [(4, .int x119), (0, .ref (a 4 0)), (1, .ref (a 1 i1)), (3, .int x3), (5, .int x102), (6, .int x111)]) hx hb dX4_work_117 hl (k := 3) rfl (by rw [ex119]; rfl) (by decide) rfl (fun ls hl => ?_)
              refine lv_aload_n hx hb dX4_work_120 rfl (lv_at hl 1 rfl) ?_
              refine r_get C hR 4 0 1 (v := .ref (a 44 0)) (lv0 (by decide) (by decide)) (by decide) (by decide) rfl fl_X4_11 dX4_work_121 ?_
              refine lv_iload hx hb dX4_work_124 (lv_at hl 0 rfl) ?_
              refine lv_iconst (v := 1) hx hb dX4_work_126 (by decide) ?_
              refine lv_isub hx hb dX4_work_127 ?_
              refine lv_iload hx hb dX4_work_128 (lv_at hl 5 rfl) ?_
              refine lv_aload_n hx hb dX4_work_130 rfl (lv_at hl 1 rfl) ?_
              refine r_get C hR 4 0 1 (v := .ref (a 44 0)) (lv0 (by decide) (by decide)) (by decide) (by decide) rfl fl_X4_11 dX4_work_131 ?_
              refine lv_iload hx hb dX4_work_134 (lv_at hl 0 rfl) ?_
              refine lv_iconst (v := 1) hx hb dX4_work_136 (by decide) ?_
              refine lv_isub hx hb dX4_work_137 ?_
              obtain ⟨k120, hk120, h⟩ := ob h
              refine r_ald C hR 44 0 (lv0 (by decide) (by decide)) (by decide) rfl (fun _ => rfl) rfl hk120 dX4_work_138 ?_
              refine lv_aload_n hx hb dX4_work_139 rfl (lv_at hl 1 rfl) ?_
              refine r_get C hR 4 0 1 (v := .ref (a 44 0)) (lv0 (by decide) (by decide)) (by decide) (by decide) rfl fl_X4_11 dX4_work_140 ?_
              refine lv_iload hx hb dX4_work_143 (lv_at hl 0 rfl) ?_
              obtain ⟨k121, hk121, h⟩ := ob h
              refine r_ald C hR 44 0 (lv0 (by decide) (by decide)) (by decide) rfl (fun _ => rfl) rfl hk121 dX4_work_145 ?_
              obtain ⟨x123, hc122, h⟩ := ob h
              refine r_callS1 (As := [.int x111, .int (gI u103 44 0 k120), .int (gI u103 44 0 k121)]) (rest := [.int (x119 - 1), .ref (a 44 0)]) C (vX4_joined hc122) hR hS ml_X4_43 ms_X4_joined rfl ⟨Nat.le_of_ble_eq_true rfl, Nat.le_of_ble_eq_true rfl, Nat.le_of_ble_eq_true rfl, Nat.le_of_ble_eq_true rfl⟩ hl.1 rfl (Nat.le_of_ble_eq_true rfl) dX4_work_146 (fun H locs hR hS => ?_)
              obtain ⟨k124, hk124, h⟩ := ob h
              refine r_ast C hR hS 44 0 (lv0 (by decide) (by decide)) (by decide) rfl (fun _ _ => rfl) rfl hk124 dX4_work_149 (fun H locs hR hS => ?_)
              obtain ⟨u125, eu125⟩ : ∃ z : HS, z = wI u103 44 0 k124 x123 := ⟨_, rfl⟩
              rw [← eu125] at hR
              replace h := bd_x eu125 h
              clear eu125
              exact Kj114 _ _ _ _ _ h hR hS (lv_sub hl [1, 2, 3, 0, 4] rfl)
          refine lv_icmp_ne (tgt := 111) hx hb dX4_work_74 (by decide) (fun c_126 => ?_) (fun c_126 => ?_)
          · rw [if_neg c_126] at h
            exact Kj117  _ _ _ h hR hS (lv_sub hl [0, 1, 2, 3, 4, 5] rfl)
          · rw [if_pos c_126] at h
            refine lv_iload hx hb dX4_work_77 (lv_at hl 3 rfl) ?_
            refine lv_if_le (tgt := 111) hx hb dX4_work_79 (by decide) (fun c_127 => ?_) (fun c_127 => ?_)
            · rw [if_pos c_127] at h
              exact Kj117  _ _ _ h hR hS (lv_sub hl [0, 1, 2, 3, 4, 5] rfl)
            · rw [if_neg c_127] at h
              refine lv_aload_n hx hb dX4_work_82 rfl (lv_at hl 0 rfl) ?_
              refine r_get C hR 4 0 1 (v := .ref (a 44 0)) (lv0 (by decide) (by decide)) (by decide) (by decide) rfl fl_X4_11 dX4_work_83 ?_
              refine lv_iload hx hb dX4_work_86 (lv_at hl 3 rfl) ?_
              refine lv_iconst (v := 1) hx hb dX4_work_88 (by decide) ?_
              refine lv_isub hx hb dX4_work_89 ?_
              refine lv_aload_n hx hb dX4_work_90 rfl (lv_at hl 0 rfl) ?_
              refine r_get C hR 4 0 1 (v := .ref (a 44 0)) (lv0 (by decide) (by decide)) (by decide) (by decide) rfl fl_X4_11 dX4_work_91 ?_
              refine lv_iload hx hb dX4_work_94 (lv_at hl 3 rfl) ?_
              refine lv_iconst (v := 1) hx hb dX4_work_96 (by decide) ?_
              refine lv_isub hx hb dX4_work_97 ?_
              obtain ⟨k128, hk128, h⟩ := ob h
              refine r_ald C hR 44 0 (lv0 (by decide) (by decide)) (by decide) rfl (fun _ => rfl) rfl hk128 dX4_work_98 ?_
              obtain ⟨x129, hz, h⟩ := ob h
              have Kj130 : ∀ (H : Heap) (locs : List Loc) (ls : Array Slot), Rel E a u103 H → va_S (AE E) s.heap H locs → lv_has ls 7 [(0, .ref (a 4 0)), (1, .ref (a 1 i1)), (3, .int x3), (4, .int x101), (5, .int x102)] → W p l e { frames := 1, cells := 0, slots := 0, locals := 22 } s m args below meth c H locs 0 0 (MQ below (QW E a (some (.int out.1)) out.2) args s 0 0 (AE E)) (F0 m 107 ls [.int x129, .int (x101 - 1), .ref (a 44 0)]) := by
                intro H locs ls hR hS hl
                clear hz
                obtain ⟨k131, hk131, h⟩ := ob h
                refine r_ast C hR hS 44 0 (lv0 (by decide) (by decide)) (by decide) rfl (fun _ _ => rfl) rfl hk131 dX4_work_107 (fun H locs hR hS => ?_)
                obtain ⟨u132, eu132⟩ : ∃ z : HS, z = wI u103 44 0 k131 x129 := ⟨_, rfl⟩
                rw [← eu132] at hR
                replace h := bd_x eu132 h
                clear eu132
                refine lv_goto (tgt := 150) hx hb dX4_work_108 (by decide) ?_
                exact Kj114 _ _ _ _ _ h hR hS (lv_sub hl [0, 1, 2, 3, 4] rfl)
              clear h
              have h := hz
              clear hz
              refine lv_if_ne (tgt := 106) hx hb dX4_work_99 (by decide) (fun c_133 => ?_) (fun c_133 => ?_)
              · rw [if_neg c_133] at h
                refine lv_iconst (v := 0) hx hb dX4_work_106 (by decide) ?_
                cases h
                exact Kj130 _ _ _ hR hS (lv_sub hl [0, 1, 2, 3, 4] rfl)
              · rw [if_pos c_133] at h
                refine lv_iconst (v := 1) hx hb dX4_work_102 (by decide) ?_
                refine lv_goto (tgt := 107) hx hb dX4_work_103 (by decide) ?_
                cases h
                exact Kj130 _ _ _ hR hS (lv_sub hl [0, 1, 2, 3, 4] rfl)
        refine lv_icmp_lt (tgt := 70) hx hb dX4_work_25 (by decide) (fun c_134 => ?_) (fun c_134 => ?_)
        · rw [if_pos c_134] at h
          exact Kj116  _ _ _ h hR hS (lv_sub hl [1, 2, 3, 4, 5, 0] rfl)
        · rw [if_neg c_134] at h
          refine lv_iload hx hb dX4_work_28 (lv_at hl 4 rfl) ?_
          refine lv_bipush (v := 64) hx hb dX4_work_30 (by decide) ?_
          refine lv_icmp_ge (tgt := 70) hx hb dX4_work_32 (by decide) (fun c_135 => ?_) (fun c_135 => ?_)
          · rw [if_pos c_135] at h
            exact Kj116  _ _ _ h hR hS (lv_sub hl [1, 2, 3, 4, 5, 0] rfl)
          · rw [if_neg c_135] at h
            refine lv_aload_n hx hb dX4_work_35 rfl (lv_at hl 1 rfl) ?_
            refine r_get C hR 4 0 1 (v := .ref (a 44 0)) (lv0 (by decide) (by decide)) (by decide) (by decide) rfl fl_X4_11 dX4_work_36 ?_
            refine lv_iload hx hb dX4_work_39 (lv_at hl 4 rfl) ?_
            refine lv_iload hx hb dX4_work_41 (lv_at hl 0 rfl) ?_
            obtain ⟨x136, hz, h⟩ := ob h
            have Kj137 : ∀ (H : Heap) (locs : List Loc) (ls : Array Slot), Rel E a u103 H → va_S (AE E) s.heap H locs → lv_has ls 7 [(0, .ref (a 4 0)), (1, .ref (a 1 i1)), (3, .int x3), (4, .int x101), (5, .int x102)] → W p l e { frames := 1, cells := 0, slots := 0, locals := 22 } s m args below meth c H locs 0 0 (MQ below (QW E a (some (.int out.1)) out.2) args s 0 0 (AE E)) (F0 m 63 ls [.int x136, .int x101, .ref (a 44 0)]) := by
              intro H locs ls hR hS hl
              clear hz
              obtain ⟨k138, hk138, h⟩ := ob h
              refine r_ast C hR hS 44 0 (lv0 (by decide) (by decide)) (by decide) rfl (fun _ _ => rfl) rfl hk138 dX4_work_63 (fun H locs hR hS => ?_)
              obtain ⟨u139, eu139⟩ : ∃ z : HS, z = wI u103 44 0 k138 x136 := ⟨_, rfl⟩
              rw [← eu139] at hR
              replace h := bd_x eu139 h
              clear eu139
              obtain ⟨x140, ex140⟩ : ∃ z : Int32, z = x101 + 1 := ⟨_, rfl⟩
              replace h := bd_x ex140 h
              refine lv_iinc (v := x140) (lv' := [(4, .int x140), (0, .ref (a 4 0)), (1, .ref (a 1 i1)), (3, .int x3), (5, .int x102)]) hx hb dX4_work_64 hl (k := 3) rfl (by rw [ex140]; rfl) (by decide) rfl (fun ls hl => ?_)
              refine lv_goto (tgt := 150) hx hb dX4_work_67 (by decide) ?_
              exact Kj114 _ _ _ _ _ h hR hS (lv_sub hl [1, 2, 3, 0, 4] rfl)
            clear h
            have h := hz
            clear hz
            refine lv_if_lt (tgt := 51) hx hb dX4_work_43 (by decide) (fun c_141 => ?_) (fun c_141 => ?_)
            · rw [if_pos c_141] at h
              refine lv_aload_n hx hb dX4_work_51 rfl (lv_at hl 1 rfl) ?_
              refine r_get C hR 4 0 0 (v := .ref (a 7 0)) (lv0 (by decide) (by decide)) (by decide) (by decide) rfl fl_X4_29 dX4_work_52 ?_
              refine r_get C hR 7 0 5 (v := .ref (a 48 0)) (lv0 (by decide) (by decide)) (by decide) (by decide) rfl fl_X4_38 dX4_work_55 ?_
              refine lv_iconst (v := (-1)) hx hb dX4_work_58 (by decide) ?_
              refine lv_iload hx hb dX4_work_59 (lv_at hl 0 rfl) ?_
              refine lv_isub hx hb dX4_work_61 ?_
              obtain ⟨k142, hk142, h⟩ := ob h
              refine r_ald C hR 48 0 (lv0 (by decide) (by decide)) (by decide) rfl (fun _ => rfl) rfl hk142 dX4_work_62 ?_
              cases h
              exact Kj137 _ _ _ hR hS (lv_sub hl [1, 2, 3, 4, 5] rfl)
            · rw [if_neg c_141] at h
              refine lv_iload hx hb dX4_work_46 (lv_at hl 0 rfl) ?_
              refine lv_goto (tgt := 63) hx hb dX4_work_48 (by decide) ?_
              cases h
              exact Kj137 _ _ _ hR hS (lv_sub hl [1, 2, 3, 4, 5] rfl)
  exact LP FU _ _ _ _ _ _ h hR hS (lv_sub hl [2, 3, 5, 1, 0] rfl)
set_option maxHeartbeats 4000000 in
set_option maxRecDepth 100000 in
theorem vX4_getsNow {l : Launch} {E : EV} {a : Nat → Nat → Nat} {u0 : HS} {i1 : Nat} {out : (Int32 × HS)} (hi1 : i1 < cntS 1) (h : mX4_getsNow u0 i1 = some out) : Ct l E yX4_getsNow cX4_getsNow 4 (some .int) 2 48 0 0 a u0 [.ref (a 4 0), .ref (a 1 i1)] (some (.int out.1)) out.2 := by
  refine Ct.start (by decide) (Nat.le_of_ble_eq_true rfl) ?_
  intro p e s m args below meth c ls C hr hR hS hl
  have C : Cx E p s m args meth c cX4_getsNow 4 RX4 := C
  have hl : lv_has ls 4 [(0, .ref (a 4 0)), (1, .ref (a 1 i1))] := hl
  have hx := C.1
  have hb := C.2.1
  unfold mX4_getsNow at h
  refine lv_iconst (v := 0) hx hb dX4_getsNow_0 (by decide) ?_
  refine lv_istore_n (lv' := [(2, .int 0), (0, .ref (a 4 0)), (1, .ref (a 1 i1))]) hx hb dX4_getsNow_1 rfl hl (by decide) rfl (fun ls hl => ?_)
  refine lv_iconst (v := 0) hx hb dX4_getsNow_2 (by decide) ?_
  refine lv_istore_n (lv' := [(3, .int 0), (2, .int 0), (0, .ref (a 4 0)), (1, .ref (a 1 i1))]) hx hb dX4_getsNow_3 rfl hl (by decide) rfl (fun ls hl => ?_)
  refine jp_cut h (fun w106 hw106 h => ?_)
  have Kw106 : ∀ (x104 : Int32) (u105 : HS) (H : Heap) (locs : List Loc) (ls : Array Slot), w106 x104 u105 = some out → Rel E a u105 H → va_S (AE E) s.heap H locs → lv_has ls 4 [(2, .int x104)] → W p l e { frames := 2, cells := 0, slots := 0, locals := 48 } s m args below meth c H locs 0 0 (MQ below (QW E a (some (.int out.1)) out.2) args s 0 0 (AE E)) (F0 m 77 ls []) := by
    intro x104 u105 H locs ls h hR hS hl
    replace h := jx2 hw106 h
    refine lv_iconst (v := 0) hx hb dX4_getsNow_77 (by decide) ?_
    refine lv_sipush (v := 1000) hx hb dX4_getsNow_78 (by decide) ?_
    refine lv_iload_n hx hb dX4_getsNow_81 rfl (lv_at hl 0 rfl) ?_
    refine r_min C hl.1 ml_X4_69 (Nat.le_of_ble_eq_true rfl) (Nat.le_of_ble_eq_true rfl) (Nat.le_of_ble_eq_true rfl) (Nat.le_of_ble_eq_true rfl) dX4_getsNow_82 ?_
    refine lv_topi (fun x107 ex107 => ?_)
    replace h := bd_x ex107 h
    refine r_max C hl.1 ml_X4_75 (Nat.le_of_ble_eq_true rfl) (Nat.le_of_ble_eq_true rfl) (Nat.le_of_ble_eq_true rfl) (Nat.le_of_ble_eq_true rfl) dX4_getsNow_85 ?_
    refine lv_topi (fun x108 ex108 => ?_)
    replace h := bd_x ex108 h
    cases h
    exact e_iret C hr hR hS (Nat.le_of_ble_eq_true rfl) (Nat.le_of_ble_eq_true rfl) dX4_getsNow_88
  have LP : ∀ (fu : Nat) (x101 : Int32) (x102 : Int32) (u103 : HS) (H : Heap) (locs : List Loc) (ls : Array Slot), mX4_getsNow_L4 i1 w106 fu x101 x102 u103 = some out → Rel E a u103 H → va_S (AE E) s.heap H locs → lv_has ls 4 [(0, .ref (a 4 0)), (1, .ref (a 1 i1)), (2, .int x101), (3, .int x102)] → W p l e { frames := 2, cells := 0, slots := 0, locals := 48 } s m args below meth c H locs 0 0 (MQ below (QW E a (some (.int out.1)) out.2) args s 0 0 (AE E)) (F0 m 4 ls []) := by
    intro fu
    induction fu with
    | zero =>
      intro x101 x102 u103 H locs ls h
      have h2 : (none : Option (Int32 × HS)) = some out := h
      cases h2
    | succ fu ih =>
      intro x101 x102 u103 H locs ls h hR hS hl
      rw [mX4_getsNow_L4.eq_2] at h
      refine lv_iload_n hx hb dX4_getsNow_4 rfl (lv_at hl 3 rfl) ?_
      refine lv_aload_n hx hb dX4_getsNow_5 rfl (lv_at hl 1 rfl) ?_
      refine r_get C hR 1 i1 2 (v := .int (gI u103 1 i1 2)) (lv0 hi1 (by decide)) (by decide) (by decide) rfl fl_X4_47 dX4_getsNow_6 ?_
      refine lv_icmp_ge (tgt := 77) hx hb dX4_getsNow_9 (by decide) (fun c_109 => ?_) (fun c_109 => ?_)
      · rw [if_pos c_109] at h
        exact Kw106 _ _ _ _ _ h hR hS (lv_sub hl [2] rfl)
      · rw [if_neg c_109] at h
        refine lv_aload_n hx hb dX4_getsNow_12 rfl (lv_at hl 0 rfl) ?_
        refine r_get C hR 4 0 0 (v := .ref (a 7 0)) (lv0 (by decide) (by decide)) (by decide) (by decide) rfl fl_X4_29 dX4_getsNow_13 ?_
        refine r_get C hR 7 0 6 (v := .int (gI u103 7 0 6)) (lv0 (by decide) (by decide)) (by decide) (by decide) rfl fl_X4_50 dX4_getsNow_16 ?_
        refine lv_if_eq (tgt := 77) hx hb dX4_getsNow_19 (by decide) (fun c_110 => ?_) (fun c_110 => ?_)
        · rw [if_pos c_110] at h
          exact Kw106 _ _ _ _ _ h hR hS (lv_sub hl [2] rfl)
        · rw [if_neg c_110] at h
          refine lv_aload_n hx hb dX4_getsNow_22 rfl (lv_at hl 1 rfl) ?_
          refine r_get C hR 1 i1 3 (v := .ref (a 33 i1)) (lv0 hi1 (by decide)) (by decide) (by decide) rfl fl_X4_53 dX4_getsNow_23 ?_
          refine lv_iload_n hx hb dX4_getsNow_26 rfl (lv_at hl 3 rfl) ?_
          obtain ⟨k111, hk111, h⟩ := ob h
          refine r_ald C hR 33 i1 (lv0 hi1 (by decide)) (by decide) rfl (fun _ => rfl) rfl hk111 dX4_getsNow_27 ?_
          refine jp_cut h (fun j114 hj114 h => ?_)
          have Kj114 : ∀ (x112 : Int32) (u113 : HS) (H : Heap) (locs : List Loc) (ls : Array Slot), j114 x112 u113 = some out → Rel E a u113 H → va_S (AE E) s.heap H locs → lv_has ls 4 [(0, .ref (a 4 0)), (1, .ref (a 1 i1)), (2, .int x112), (3, .int x102)] → W p l e { frames := 2, cells := 0, slots := 0, locals := 48 } s m args below meth c H locs 0 0 (MQ below (QW E a (some (.int out.1)) out.2) args s 0 0 (AE E)) (F0 m 71 ls []) := by
            intro x112 u113 H locs ls h hR hS hl
            replace h := jx2 hj114 h
            obtain ⟨x115, ex115⟩ : ∃ z : Int32, z = x102 + 1 := ⟨_, rfl⟩
            replace h := bd_x ex115 h
            refine lv_iinc (v := x115) (lv' := [(3, .int x115), (0, .ref (a 4 0)), (1, .ref (a 1 i1)), (2, .int x112)]) hx hb dX4_getsNow_71 hl (k := 3) rfl (by rw [ex115]; rfl) (by decide) rfl (fun ls hl => ?_)
            refine lv_goto (tgt := 4) hx hb dX4_getsNow_74 (by decide) ?_
            exact ih _ _ _ _ _ _ h hR hS (lv_sub hl [1, 2, 3, 0] rfl)
          refine lv_if_ne (tgt := 71) hx hb dX4_getsNow_28 (by decide) (fun c_116 => ?_) (fun c_116 => ?_)
          · rw [if_neg c_116] at h
            exact Kj114 _ _ _ _ _ h hR hS (lv_sub hl [0, 1, 2, 3] rfl)
          · rw [if_pos c_116] at h
            refine lv_aload_n hx hb dX4_getsNow_31 rfl (lv_at hl 0 rfl) ?_
            refine lv_aload_n hx hb dX4_getsNow_32 rfl (lv_at hl 1 rfl) ?_
            refine lv_aload_n hx hb dX4_getsNow_33 rfl (lv_at hl 1 rfl) ?_
            refine r_get C hR 1 i1 5 (v := .ref (a 35 i1)) (lv0 hi1 (by decide)) (by decide) (by decide) rfl fl_X4_56 dX4_getsNow_34 ?_
            refine lv_iload_n hx hb dX4_getsNow_37 rfl (lv_at hl 3 rfl) ?_
            obtain ⟨k117, hk117, h⟩ := ob h
            refine r_ald C hR 35 i1 (lv0 hi1 (by decide)) (by decide) rfl (fun _ => rfl) rfl hk117 dX4_getsNow_38 ?_
            refine lv_aload_n hx hb dX4_getsNow_39 rfl (lv_at hl 1 rfl) ?_
            refine r_get C hR 1 i1 6 (v := .ref (a 36 i1)) (lv0 hi1 (by decide)) (by decide) (by decide) rfl fl_X4_59 dX4_getsNow_40 ?_
            refine lv_iload_n hx hb dX4_getsNow_43 rfl (lv_at hl 3 rfl) ?_
            obtain ⟨k118, hk118, h⟩ := ob h
            refine r_ald C hR 36 i1 (lv0 hi1 (by decide)) (by decide) rfl (fun _ => rfl) rfl hk118 dX4_getsNow_44 ?_
            obtain ⟨⟨x120, u121⟩, hc119, h⟩ := ob h
            replace h := bd_x (x := x120) rfl h
            replace h := bd_x (x := u121) rfl h
            refine r_callV1 (As := [.ref (a 1 i1), .int (gI u103 35 i1 k117), .int (gI u103 36 i1 k118)]) (rest := []) (r := 4) (i := 0) C (vX4_work hi1 hc119) hR hS (lv0 (by decide) (by decide)) (by decide) ml_X4_62 mw_X4_work rfl ⟨Nat.le_of_ble_eq_true rfl, Nat.le_of_ble_eq_true rfl, Nat.le_of_ble_eq_true rfl, Nat.le_of_ble_eq_true rfl⟩ hl.1 rfl (Nat.le_of_ble_eq_true rfl) dX4_getsNow_45 (fun H locs hR hS => ?_)
            refine lv_if_eq (tgt := 71) hx hb dX4_getsNow_48 (by decide) (fun c_122 => ?_) (fun c_122 => ?_)
            · rw [if_pos c_122] at h
              exact Kj114 _ _ _ _ _ h hR hS (lv_sub hl [0, 1, 2, 3] rfl)
            · rw [if_neg c_122] at h
              refine lv_iload_n hx hb dX4_getsNow_51 rfl (lv_at hl 2 rfl) ?_
              refine lv_aload_n hx hb dX4_getsNow_52 rfl (lv_at hl 0 rfl) ?_
              refine lv_aload_n hx hb dX4_getsNow_53 rfl (lv_at hl 1 rfl) ?_
              refine lv_aload_n hx hb dX4_getsNow_54 rfl (lv_at hl 1 rfl) ?_
              refine r_get C hR 1 i1 4 (v := .ref (a 34 i1)) (lv0 hi1 (by decide)) (by decide) (by decide) rfl fl_X4_66 dX4_getsNow_55 ?_
              refine lv_iload_n hx hb dX4_getsNow_58 rfl (lv_at hl 3 rfl) ?_
              obtain ⟨k123, hk123, h⟩ := ob h
              refine r_ald C hR 34 i1 (lv0 hi1 (by decide)) (by decide) rfl (fun _ => rfl) rfl hk123 dX4_getsNow_59 ?_
              refine lv_aload_n hx hb dX4_getsNow_60 rfl (lv_at hl 1 rfl) ?_
              refine r_get C hR 1 i1 5 (v := .ref (a 35 i1)) (lv0 hi1 (by decide)) (by decide) (by decide) rfl fl_X4_56 dX4_getsNow_61 ?_
              refine lv_iload_n hx hb dX4_getsNow_64 rfl (lv_at hl 3 rfl) ?_
              obtain ⟨k124, hk124, h⟩ := ob h
              refine r_ald C hR 35 i1 (lv0 hi1 (by decide)) (by decide) rfl (fun _ => rfl) rfl hk124 dX4_getsNow_65 ?_
              obtain ⟨⟨x126, u127⟩, hc125, h⟩ := ob h
              replace h := bd_x (x := x126) rfl h
              replace h := bd_x (x := u127) rfl h
              refine r_callV1 (As := [.ref (a 1 i1), .int (gI u121 34 i1 k123), .int (gI u121 35 i1 k124)]) (rest := [.int x101]) (r := 4) (i := 0) C (vX4_work hi1 hc125) hR hS (lv0 (by decide) (by decide)) (by decide) ml_X4_62 mw_X4_work rfl ⟨Nat.le_of_ble_eq_true rfl, Nat.le_of_ble_eq_true rfl, Nat.le_of_ble_eq_true rfl, Nat.le_of_ble_eq_true rfl⟩ hl.1 rfl (Nat.le_of_ble_eq_true rfl) dX4_getsNow_66 (fun H locs hR hS => ?_)
              refine lv_iadd hx hb dX4_getsNow_69 ?_
              refine lv_topi (fun x128 ex128 => ?_)
              replace h := bd_x ex128 h
              refine lv_istore_n (lv' := [(2, .int x128), (0, .ref (a 4 0)), (1, .ref (a 1 i1)), (3, .int x102)]) hx hb dX4_getsNow_70 rfl hl (by decide) rfl (fun ls hl => ?_)
              exact Kj114 _ _ _ _ _ h hR hS (lv_sub hl [1, 2, 0, 3] rfl)
  exact LP FU _ _ _ _ _ _ h hR hS (lv_sub hl [2, 3, 1, 0] rfl)
set_option maxHeartbeats 4000000 in
set_option maxRecDepth 100000 in
theorem vX4_lastOf {l : Launch} {E : EV} {a : Nat → Nat → Nat} {u0 : HS} {i1 : Nat} {x2 : Int32} {x3 : Int32} {x4 : Int32} {x5 : Int32} {out : (Int32 × HS)} (hi1 : i1 < cntS 1) (h : mX4_lastOf u0 i1 x2 x3 x4 x5 = some out) : Ct l E yX4_lastOf cX4_lastOf 7 (some .int) 2 48 0 0 a u0 [.ref (a 4 0), .ref (a 1 i1), .int x2, .int x3, .int x4, .int x5] (some (.int out.1)) out.2 := by
  refine Ct.start (by decide) (Nat.le_of_ble_eq_true rfl) ?_
  intro p e s m args below meth c ls C hr hR hS hl
  have C : Cx E p s m args meth c cX4_lastOf 7 RX4 := C
  have hl : lv_has ls 7 [(0, .ref (a 4 0)), (1, .ref (a 1 i1)), (2, .int x2), (3, .int x3), (4, .int x4), (5, .int x5)] := hl
  have hx := C.1
  have hb := C.2.1
  unfold mX4_lastOf at h
  refine lv_aload_n hx hb dX4_lastOf_0 rfl (lv_at hl 1 rfl) ?_
  refine r_get C hR 1 i1 2 (v := .int (gI u0 1 i1 2)) (lv0 hi1 (by decide)) (by decide) (by decide) rfl fl_X4_47 dX4_lastOf_1 ?_
  refine lv_iconst (v := 1) hx hb dX4_lastOf_4 (by decide) ?_
  refine lv_isub hx hb dX4_lastOf_5 ?_
  refine lv_topi (fun x101 ex101 => ?_)
  replace h := bd_x ex101 h
  refine lv_istore (lv' := [(6, .int x101), (0, .ref (a 4 0)), (1, .ref (a 1 i1)), (2, .int x2), (3, .int x3), (4, .int x4), (5, .int x5)]) hx hb dX4_lastOf_6 hl (by decide) rfl (fun ls hl => ?_)
  refine jp_cut h (fun w105 hw105 h => ?_)
  have Kw105 : ∀ (u104 : HS) (H : Heap) (locs : List Loc) (ls : Array Slot), w105 u104 = some out → Rel E a u104 H → va_S (AE E) s.heap H locs → lv_has ls 7 [(5, .int x5)] → W p l e { frames := 2, cells := 0, slots := 0, locals := 48 } s m args below meth c H locs 0 0 (MQ below (QW E a (some (.int out.1)) out.2) args s 0 0 (AE E)) (F0 m 81 ls []) := by
    intro u104 H locs ls h hR hS hl
    replace h := jx1 hw105 h
    refine lv_iload hx hb dX4_lastOf_81 (lv_at hl 0 rfl) ?_
    cases h
    exact e_iret C hr hR hS (Nat.le_of_ble_eq_true rfl) (Nat.le_of_ble_eq_true rfl) dX4_lastOf_83
  have LP : ∀ (fu : Nat) (x102 : Int32) (u103 : HS) (H : Heap) (locs : List Loc) (ls : Array Slot), mX4_lastOf_L8 i1 x2 x4 x3 w105 fu x102 u103 = some out → Rel E a u103 H → va_S (AE E) s.heap H locs → lv_has ls 7 [(0, .ref (a 4 0)), (1, .ref (a 1 i1)), (2, .int x2), (3, .int x3), (4, .int x4), (5, .int x5), (6, .int x102)] → W p l e { frames := 2, cells := 0, slots := 0, locals := 48 } s m args below meth c H locs 0 0 (MQ below (QW E a (some (.int out.1)) out.2) args s 0 0 (AE E)) (F0 m 8 ls []) := by
    intro fu
    induction fu with
    | zero =>
      intro x102 u103 H locs ls h
      have h2 : (none : Option (Int32 × HS)) = some out := h
      cases h2
    | succ fu ih =>
      intro x102 u103 H locs ls h hR hS hl
      rw [mX4_lastOf_L8.eq_2] at h
      refine lv_iload hx hb dX4_lastOf_8 (lv_at hl 6 rfl) ?_
      refine lv_if_lt (tgt := 81) hx hb dX4_lastOf_10 (by decide) (fun c_106 => ?_) (fun c_106 => ?_)
      · rw [if_pos c_106] at h
        exact Kw105 _ _ _ _ h hR hS (lv_sub hl [5] rfl)
      · rw [if_neg c_106] at h
        refine lv_aload_n hx hb dX4_lastOf_13 rfl (lv_at hl 1 rfl) ?_
        refine r_get C hR 1 i1 3 (v := .ref (a 33 i1)) (lv0 hi1 (by decide)) (by decide) (by decide) rfl fl_X4_53 dX4_lastOf_14 ?_
        refine lv_iload hx hb dX4_lastOf_17 (lv_at hl 6 rfl) ?_
        obtain ⟨k107, hk107, h⟩ := ob h
        refine r_ald C hR 33 i1 (lv0 hi1 (by decide)) (by decide) rfl (fun _ => rfl) rfl hk107 dX4_lastOf_19 ?_
        refine lv_iload_n hx hb dX4_lastOf_20 rfl (lv_at hl 2 rfl) ?_
        refine jp_cut h (fun j109 hj109 h => ?_)
        have Kj109 : ∀ (u108 : HS) (H : Heap) (locs : List Loc) (ls : Array Slot), j109 u108 = some out → Rel E a u108 H → va_S (AE E) s.heap H locs → lv_has ls 7 [(0, .ref (a 4 0)), (1, .ref (a 1 i1)), (2, .int x2), (3, .int x3), (4, .int x4), (5, .int x5), (6, .int x102)] → W p l e { frames := 2, cells := 0, slots := 0, locals := 48 } s m args below meth c H locs 0 0 (MQ below (QW E a (some (.int out.1)) out.2) args s 0 0 (AE E)) (F0 m 75 ls []) := by
          intro u108 H locs ls h hR hS hl
          replace h := jx1 hj109 h
          obtain ⟨x110, ex110⟩ : ∃ z : Int32, z = x102 + (-1) := ⟨_, rfl⟩
          replace h := bd_x ex110 h
          refine lv_iinc (v := x110) (lv' := [(6, .int x110), (0, .ref (a 4 0)), (1, .ref (a 1 i1)), (2, .int x2), (3, .int x3), (4, .int x4), (5, .int x5)]) hx hb dX4_lastOf_75 hl (k := 6) rfl (by rw [ex110]; rfl) (by decide) rfl (fun ls hl => ?_)
          refine lv_goto (tgt := 8) hx hb dX4_lastOf_78 (by decide) ?_
          exact ih _ _ _ _ _ h hR hS (lv_sub hl [1, 2, 3, 4, 5, 6, 0] rfl)
        refine lv_icmp_ne (tgt := 75) hx hb dX4_lastOf_21 (by decide) (fun c_111 => ?_) (fun c_111 => ?_)
        · rw [if_neg c_111] at h
          exact Kj109 _ _ _ _ h hR hS (lv_sub hl [0, 1, 2, 3, 4, 5, 6] rfl)
        · rw [if_pos c_111] at h
          refine lv_aload_n hx hb dX4_lastOf_24 rfl (lv_at hl 0 rfl) ?_
          refine lv_aload_n hx hb dX4_lastOf_25 rfl (lv_at hl 1 rfl) ?_
          refine lv_aload_n hx hb dX4_lastOf_26 rfl (lv_at hl 1 rfl) ?_
          refine r_get C hR 1 i1 5 (v := .ref (a 35 i1)) (lv0 hi1 (by decide)) (by decide) (by decide) rfl fl_X4_56 dX4_lastOf_27 ?_
          refine lv_iload hx hb dX4_lastOf_30 (lv_at hl 6 rfl) ?_
          obtain ⟨k112, hk112, h⟩ := ob h
          refine r_ald C hR 35 i1 (lv0 hi1 (by decide)) (by decide) rfl (fun _ => rfl) rfl hk112 dX4_lastOf_32 ?_
          refine lv_aload_n hx hb dX4_lastOf_33 rfl (lv_at hl 1 rfl) ?_
          refine r_get C hR 1 i1 6 (v := .ref (a 36 i1)) (lv0 hi1 (by decide)) (by decide) (by decide) rfl fl_X4_59 dX4_lastOf_34 ?_
          refine lv_iload hx hb dX4_lastOf_37 (lv_at hl 6 rfl) ?_
          obtain ⟨k113, hk113, h⟩ := ob h
          refine r_ald C hR 36 i1 (lv0 hi1 (by decide)) (by decide) rfl (fun _ => rfl) rfl hk113 dX4_lastOf_39 ?_
          obtain ⟨⟨x115, u116⟩, hc114, h⟩ := ob h
          replace h := bd_x (x := x115) rfl h
          replace h := bd_x (x := u116) rfl h
          refine r_callV1 (As := [.ref (a 1 i1), .int (gI u103 35 i1 k112), .int (gI u103 36 i1 k113)]) (rest := []) (r := 4) (i := 0) C (vX4_work hi1 hc114) hR hS (lv0 (by decide) (by decide)) (by decide) ml_X4_62 mw_X4_work rfl ⟨Nat.le_of_ble_eq_true rfl, Nat.le_of_ble_eq_true rfl, Nat.le_of_ble_eq_true rfl, Nat.le_of_ble_eq_true rfl⟩ hl.1 rfl (Nat.le_of_ble_eq_true rfl) dX4_lastOf_40 (fun H locs hR hS => ?_)
          refine lv_if_eq (tgt := 75) hx hb dX4_lastOf_43 (by decide) (fun c_117 => ?_) (fun c_117 => ?_)
          · rw [if_pos c_117] at h
            exact Kj109 _ _ _ _ h hR hS (lv_sub hl [0, 1, 2, 3, 4, 5, 6] rfl)
          · rw [if_neg c_117] at h
            refine lv_iload_n hx hb dX4_lastOf_46 rfl (lv_at hl 3 rfl) ?_
            refine lv_iload hx hb dX4_lastOf_47 (lv_at hl 4 rfl) ?_
            refine lv_aload_n hx hb dX4_lastOf_49 rfl (lv_at hl 0 rfl) ?_
            refine lv_aload_n hx hb dX4_lastOf_50 rfl (lv_at hl 1 rfl) ?_
            refine lv_aload_n hx hb dX4_lastOf_51 rfl (lv_at hl 1 rfl) ?_
            refine r_get C hR 1 i1 4 (v := .ref (a 34 i1)) (lv0 hi1 (by decide)) (by decide) (by decide) rfl fl_X4_66 dX4_lastOf_52 ?_
            refine lv_iload hx hb dX4_lastOf_55 (lv_at hl 6 rfl) ?_
            obtain ⟨k118, hk118, h⟩ := ob h
            refine r_ald C hR 34 i1 (lv0 hi1 (by decide)) (by decide) rfl (fun _ => rfl) rfl hk118 dX4_lastOf_57 ?_
            refine lv_aload_n hx hb dX4_lastOf_58 rfl (lv_at hl 1 rfl) ?_
            refine r_get C hR 1 i1 5 (v := .ref (a 35 i1)) (lv0 hi1 (by decide)) (by decide) (by decide) rfl fl_X4_56 dX4_lastOf_59 ?_
            refine lv_iload hx hb dX4_lastOf_62 (lv_at hl 6 rfl) ?_
            obtain ⟨k119, hk119, h⟩ := ob h
            refine r_ald C hR 35 i1 (lv0 hi1 (by decide)) (by decide) rfl (fun _ => rfl) rfl hk119 dX4_lastOf_64 ?_
            obtain ⟨⟨x121, u122⟩, hc120, h⟩ := ob h
            replace h := bd_x (x := x121) rfl h
            replace h := bd_x (x := u122) rfl h
            refine r_callV1 (As := [.ref (a 1 i1), .int (gI u116 34 i1 k118), .int (gI u116 35 i1 k119)]) (rest := [.int x4, .int x3]) (r := 4) (i := 0) C (vX4_work hi1 hc120) hR hS (lv0 (by decide) (by decide)) (by decide) ml_X4_62 mw_X4_work rfl ⟨Nat.le_of_ble_eq_true rfl, Nat.le_of_ble_eq_true rfl, Nat.le_of_ble_eq_true rfl, Nat.le_of_ble_eq_true rfl⟩ hl.1 rfl (Nat.le_of_ble_eq_true rfl) dX4_lastOf_65 (fun H locs hR hS => ?_)
            refine r_min C hl.1 ml_X4_69 (Nat.le_of_ble_eq_true rfl) (Nat.le_of_ble_eq_true rfl) (Nat.le_of_ble_eq_true rfl) (Nat.le_of_ble_eq_true rfl) dX4_lastOf_68 ?_
            refine lv_topi (fun x123 ex123 => ?_)
            replace h := bd_x ex123 h
            refine r_max C hl.1 ml_X4_75 (Nat.le_of_ble_eq_true rfl) (Nat.le_of_ble_eq_true rfl) (Nat.le_of_ble_eq_true rfl) (Nat.le_of_ble_eq_true rfl) dX4_lastOf_71 ?_
            refine lv_topi (fun x124 ex124 => ?_)
            replace h := bd_x ex124 h
            cases h
            exact e_iret C hr hR hS (Nat.le_of_ble_eq_true rfl) (Nat.le_of_ble_eq_true rfl) dX4_lastOf_74
  exact LP FU _ _ _ _ _ h hR hS (lv_sub hl [1, 2, 3, 4, 5, 6, 0] rfl)
set_option maxHeartbeats 4000000 in
set_option maxRecDepth 100000 in
theorem vX4_lineNow {l : Launch} {E : EV} {a : Nat → Nat → Nat} {u0 : HS} {i1 : Nat} {out : (Int32 × HS)} (hi1 : i1 < cntS 1) (h : mX4_lineNow u0 i1 = some out) : Ct l E yX4_lineNow cX4_lineNow 2 (some .int) 3 74 0 0 a u0 [.ref (a 4 0), .ref (a 1 i1)] (some (.int out.1)) out.2 := by
  refine Ct.start (by decide) (Nat.le_of_ble_eq_true rfl) ?_
  intro p e s m args below meth c ls C hr hR hS hl
  have C : Cx E p s m args meth c cX4_lineNow 2 RX4 := C
  have hl : lv_has ls 2 [(0, .ref (a 4 0)), (1, .ref (a 1 i1))] := hl
  have hx := C.1
  have hb := C.2.1
  unfold mX4_lineNow at h
  refine lv_aload_n hx hb dX4_lineNow_0 rfl (lv_at hl 0 rfl) ?_
  refine lv_aload_n hx hb dX4_lineNow_1 rfl (lv_at hl 1 rfl) ?_
  refine lv_iconst (v := 1) hx hb dX4_lineNow_2 (by decide) ?_
  refine lv_iconst (v := 1) hx hb dX4_lineNow_3 (by decide) ?_
  refine lv_ldc (own := RX4) (v := 100000) hx hb C.2.2.2.1 (C.2.2.2.2.1 _ cst_X4_78) dX4_lineNow_4 ?_
  refine lv_bipush (v := 100) hx hb dX4_lineNow_6 (by decide) ?_
  obtain ⟨⟨x102, u103⟩, hc101, h⟩ := ob h
  replace h := bd_x (x := x102) rfl h
  replace h := bd_x (x := u103) rfl h
  refine r_callV1 (As := [.ref (a 1 i1), .int 1, .int 1, .int 100000, .int 100]) (rest := []) (r := 4) (i := 0) C (vX4_lastOf hi1 hc101) hR hS (lv0 (by decide) (by decide)) (by decide) ml_X4_79 mw_X4_lastOf rfl ⟨Nat.le_of_ble_eq_true rfl, Nat.le_of_ble_eq_true rfl, Nat.le_of_ble_eq_true rfl, Nat.le_of_ble_eq_true rfl⟩ hl.1 rfl (Nat.le_of_ble_eq_true rfl) dX4_lineNow_8 (fun H locs hR hS => ?_)
  cases h
  exact e_iret C hr hR hS (Nat.le_of_ble_eq_true rfl) (Nat.le_of_ble_eq_true rfl) dX4_lineNow_11
set_option maxHeartbeats 4000000 in
set_option maxRecDepth 100000 in
theorem vX4_drawNow {l : Launch} {E : EV} {a : Nat → Nat → Nat} {u0 : HS}  {out : (Int32 × HS)} (h : mX4_drawNow u0 = some out) : Ct l E yX4_drawNow cX4_drawNow 1 (some .int) 0 0 0 0 a u0 [.ref (a 4 0)] (some (.int out.1)) out.2 := by
  refine Ct.start (by decide) (Nat.le_of_ble_eq_true rfl) ?_
  intro p e s m args below meth c ls C hr hR hS hl
  have C : Cx E p s m args meth c cX4_drawNow 1 RX4 := C
  have hl : lv_has ls 1 [(0, .ref (a 4 0))] := hl
  have hx := C.1
  have hb := C.2.1
  unfold mX4_drawNow at h
  refine lv_aload_n hx hb dX4_drawNow_0 rfl (lv_at hl 0 rfl) ?_
  refine r_get C hR 4 0 3 (v := .int (gI u0 4 0 3)) (lv0 (by decide) (by decide)) (by decide) (by decide) rfl fl_X4_19 dX4_drawNow_1 ?_
  refine lv_iconst (v := (-1)) hx hb dX4_drawNow_4 (by decide) ?_
  refine lv_icmp_eq (tgt := 18) hx hb dX4_drawNow_5 (by decide) (fun c_101 => ?_) (fun c_101 => ?_)
  · rw [if_pos c_101] at h
    refine lv_iconst (v := 0) hx hb dX4_drawNow_18 (by decide) ?_
    cases h
    exact e_iret C hr hR hS (Nat.le_of_ble_eq_true rfl) (Nat.le_of_ble_eq_true rfl) dX4_drawNow_19
  · rw [if_neg c_101] at h
    refine lv_aload_n hx hb dX4_drawNow_8 rfl (lv_at hl 0 rfl) ?_
    refine r_get C hR 4 0 0 (v := .ref (a 7 0)) (lv0 (by decide) (by decide)) (by decide) (by decide) rfl fl_X4_29 dX4_drawNow_9 ?_
    refine r_get C hR 7 0 6 (v := .int (gI u0 7 0 6)) (lv0 (by decide) (by decide)) (by decide) (by decide) rfl fl_X4_50 dX4_drawNow_12 ?_
    refine lv_if_ne (tgt := 20) hx hb dX4_drawNow_15 (by decide) (fun c_102 => ?_) (fun c_102 => ?_)
    · rw [if_neg c_102] at h
      refine lv_aload_n hx hb dX4_drawNow_20 rfl (lv_at hl 0 rfl) ?_
      refine lv_aload_n hx hb dX4_drawNow_21 rfl (lv_at hl 0 rfl) ?_
      refine r_get C hR 4 0 4 (v := .int (gI u0 4 0 4)) (lv0 (by decide) (by decide)) (by decide) (by decide) rfl fl_X4_22 dX4_drawNow_22 ?_
      refine lv_ldc (own := RX4) (v := 1103515245) hx hb C.2.2.2.1 (C.2.2.2.2.1 _ cst_X4_83) dX4_drawNow_25 ?_
      refine lv_imul hx hb dX4_drawNow_27 ?_
      refine lv_sipush (v := 12345) hx hb dX4_drawNow_28 (by decide) ?_
      refine lv_iadd hx hb dX4_drawNow_31 ?_
      refine r_putI (ty := .int) C hR hS 4 0 4 (lv0 (by decide) (by decide)) (by decide) (by decide) (fun _ => rfl) fl_X4_22 (by decide) (by decide +kernel) rfl rfl dX4_drawNow_32 (fun H locs hR hS => ?_)
      obtain ⟨u103, eu103⟩ : ∃ z : HS, z = wI u0 4 0 4 (((gI u0 4 0 4) * 1103515245) + 12345) := ⟨_, rfl⟩
      rw [← eu103] at hR
      replace h := bd_x eu103 h
      clear eu103
      refine lv_aload_n hx hb dX4_drawNow_35 rfl (lv_at hl 0 rfl) ?_
      refine r_get C hR 4 0 4 (v := .int (gI u103 4 0 4)) (lv0 (by decide) (by decide)) (by decide) (by decide) rfl fl_X4_22 dX4_drawNow_36 ?_
      refine lv_bipush (v := 16) hx hb dX4_drawNow_39 (by decide) ?_
      refine lv_iushr (v := ushr (gI u103 4 0 4) 16) hx hb dX4_drawNow_41 rfl ?_
      refine lv_sipush (v := 32767) hx hb dX4_drawNow_42 (by decide) ?_
      refine lv_iand hx hb dX4_drawNow_45 ?_
      refine lv_aload_n hx hb dX4_drawNow_46 rfl (lv_at hl 0 rfl) ?_
      refine r_get C hR 4 0 3 (v := .int (gI u103 4 0 3)) (lv0 (by decide) (by decide)) (by decide) (by decide) rfl fl_X4_19 dX4_drawNow_47 ?_
      refine lv_iconst (v := 1) hx hb dX4_drawNow_50 (by decide) ?_
      refine lv_iadd hx hb dX4_drawNow_51 ?_
      obtain ⟨_, hn104, h⟩ := ob h
      refine lv_irem hx hb dX4_drawNow_52 (nz_ne hn104) ?_
      cases h
      exact e_iret C hr hR hS (Nat.le_of_ble_eq_true rfl) (Nat.le_of_ble_eq_true rfl) dX4_drawNow_53
    · rw [if_pos c_102] at h
      refine lv_iconst (v := 0) hx hb dX4_drawNow_18 (by decide) ?_
      cases h
      exact e_iret C hr hR hS (Nat.le_of_ble_eq_true rfl) (Nat.le_of_ble_eq_true rfl) dX4_drawNow_19
set_option maxHeartbeats 4000000 in
set_option maxRecDepth 100000 in
theorem vX7_regard {l : Launch} {E : EV} {a : Nat → Nat → Nat} {u0 : HS} {x1 : Int32} {x2 : Int32} {out : HS} (h : mX7_regard u0 x1 x2 = some out) : Ct l E yX7_regard cX7_regard 8 none 2 44 0 0 a u0 [.ref (a 7 0), .int x1, .int x2] none out := by
  refine Ct.start (by decide) (Nat.le_of_ble_eq_true rfl) ?_
  intro p e s m args below meth c ls C hr hR hS hl
  have C : Cx E p s m args meth c cX7_regard 8 RX7 := C
  have hl : lv_has ls 8 [(0, .ref (a 7 0)), (1, .int x1), (2, .int x2)] := hl
  have hx := C.1
  have hb := C.2.1
  unfold mX7_regard at h
  refine lv_aload_n hx hb dX7_regard_0 rfl (lv_at hl 0 rfl) ?_
  have hd101 := hR.2.2.2.2.1
  refine r_get C hR 7 0 0 (v := .ref (a 3 (gR u0 1))) (lv0 (by decide) (by decide)) (by decide) (by decide) rfl fl_X7_12 dX7_regard_1 ?_
  refine lv_iload_n hx hb dX7_regard_4 rfl (lv_at hl 1 rfl) ?_
  refine lv_iload_n hx hb dX7_regard_5 rfl (lv_at hl 2 rfl) ?_
  obtain ⟨x103, hc102, h⟩ := ob h
  refine r_callV1 (As := [.int x1, .int x2]) (rest := []) (r := 3) (i := (gR u0 1)) C (vX3_placeAt hd101 hc102) hR hS (lv0 hd101 (by decide)) (by decide) ml_X7_76 mw_X3_placeAt rfl ⟨Nat.le_of_ble_eq_true rfl, Nat.le_of_ble_eq_true rfl, Nat.le_of_ble_eq_true rfl, Nat.le_of_ble_eq_true rfl⟩ hl.1 rfl (Nat.le_of_ble_eq_true rfl) dX7_regard_6 (fun H locs hR hS => ?_)
  refine lv_istore_n (lv' := [(3, .int x103), (0, .ref (a 7 0)), (1, .int x1), (2, .int x2)]) hx hb dX7_regard_9 rfl hl (by decide) rfl (fun ls hl => ?_)
  refine lv_aload_n hx hb dX7_regard_10 rfl (lv_at hl 1 rfl) ?_
  have hd104 := hR.2.2.2.2.1
  refine r_get C hR 7 0 0 (v := .ref (a 3 (gR u0 1))) (lv0 (by decide) (by decide)) (by decide) (by decide) rfl fl_X7_12 dX7_regard_11 ?_
  refine lv_iload_n hx hb dX7_regard_14 rfl (lv_at hl 2 rfl) ?_
  refine lv_iload_n hx hb dX7_regard_15 rfl (lv_at hl 3 rfl) ?_
  refine lv_iconst (v := 1) hx hb dX7_regard_16 (by decide) ?_
  refine lv_isub hx hb dX7_regard_17 ?_
  obtain ⟨x106, hc105, h⟩ := ob h
  refine r_callV1 (As := [.int x1, .int (x2 - 1)]) (rest := []) (r := 3) (i := (gR u0 1)) C (vX3_placeAt hd104 hc105) hR hS (lv0 hd104 (by decide)) (by decide) ml_X7_76 mw_X3_placeAt rfl ⟨Nat.le_of_ble_eq_true rfl, Nat.le_of_ble_eq_true rfl, Nat.le_of_ble_eq_true rfl, Nat.le_of_ble_eq_true rfl⟩ hl.1 rfl (Nat.le_of_ble_eq_true rfl) dX7_regard_18 (fun H locs hR hS => ?_)
  refine lv_istore (lv' := [(4, .int x106), (3, .int x103), (0, .ref (a 7 0)), (1, .int x1), (2, .int x2)]) hx hb dX7_regard_21 hl (by decide) rfl (fun ls hl => ?_)
  refine lv_aload_n hx hb dX7_regard_23 rfl (lv_at hl 2 rfl) ?_
  have hd107 := hR.2.2.2.2.1
  refine r_get C hR 7 0 0 (v := .ref (a 3 (gR u0 1))) (lv0 (by decide) (by decide)) (by decide) (by decide) rfl fl_X7_12 dX7_regard_24 ?_
  refine lv_iload_n hx hb dX7_regard_27 rfl (lv_at hl 3 rfl) ?_
  refine lv_iload_n hx hb dX7_regard_28 rfl (lv_at hl 4 rfl) ?_
  obtain ⟨x109, hc108, h⟩ := ob h
  refine r_callV1 (As := [.int x1, .int x2]) (rest := []) (r := 3) (i := (gR u0 1)) C (vX3_tintAt hd107 hc108) hR hS (lv0 hd107 (by decide)) (by decide) ml_X7_114 mw_X3_tintAt rfl ⟨Nat.le_of_ble_eq_true rfl, Nat.le_of_ble_eq_true rfl, Nat.le_of_ble_eq_true rfl, Nat.le_of_ble_eq_true rfl⟩ hl.1 rfl (Nat.le_of_ble_eq_true rfl) dX7_regard_29 (fun H locs hR hS => ?_)
  refine lv_istore (lv' := [(5, .int x109), (4, .int x106), (3, .int x103), (0, .ref (a 7 0)), (1, .int x1), (2, .int x2)]) hx hb dX7_regard_32 hl (by decide) rfl (fun ls hl => ?_)
  refine lv_aload_n hx hb dX7_regard_34 rfl (lv_at hl 3 rfl) ?_
  refine r_get C hR 7 0 3 (v := .ref (a 46 0)) (lv0 (by decide) (by decide)) (by decide) (by decide) rfl fl_X7_29 dX7_regard_35 ?_
  refine lv_iload_n hx hb dX7_regard_38 rfl (lv_at hl 5 rfl) ?_
  obtain ⟨k110, hk110, h⟩ := ob h
  refine r_ald C hR 46 0 (lv0 (by decide) (by decide)) (by decide) rfl (fun _ => rfl) rfl hk110 dX7_regard_39 ?_
  refine lv_topi (fun x111 ex111 => ?_)
  replace h := bd_x ex111 h
  refine lv_istore (lv' := [(6, .int x111), (5, .int x109), (4, .int x106), (3, .int x103), (0, .ref (a 7 0)), (1, .int x1), (2, .int x2)]) hx hb dX7_regard_40 hl (by decide) rfl (fun ls hl => ?_)
  refine lv_aload_n hx hb dX7_regard_42 rfl (lv_at hl 4 rfl) ?_
  have hd112 := hR.2.2.2.2.1
  refine r_get C hR 7 0 0 (v := .ref (a 3 (gR u0 1))) (lv0 (by decide) (by decide)) (by decide) (by decide) rfl fl_X7_12 dX7_regard_43 ?_
  refine lv_iload_n hx hb dX7_regard_46 rfl (lv_at hl 6 rfl) ?_
  refine lv_aload_n hx hb dX7_regard_47 rfl (lv_at hl 4 rfl) ?_
  have hd113 := hR.2.2.2.2.2
  refine r_get C hR 7 0 1 (v := .ref (a 6 (gR u0 2))) (lv0 (by decide) (by decide)) (by decide) (by decide) rfl fl_X7_21 dX7_regard_48 ?_
  refine r_get C hR 6 (gR u0 2) 0 (v := .int (gI u0 6 (gR u0 2) 0)) (lv0 hd113 (by decide)) (by decide) (by decide) rfl fl_X7_117 dX7_regard_51 ?_
  obtain ⟨x115, hc114, h⟩ := ob h
  refine r_callV1 (As := [.int x2, .int (gI u0 6 (gR u0 2) 0)]) (rest := []) (r := 3) (i := (gR u0 1)) C (vX3_crowd hd112 hc114) hR hS (lv0 hd112 (by decide)) (by decide) ml_X7_120 mw_X3_crowd rfl ⟨Nat.le_of_ble_eq_true rfl, Nat.le_of_ble_eq_true rfl, Nat.le_of_ble_eq_true rfl, Nat.le_of_ble_eq_true rfl⟩ hl.1 rfl (Nat.le_of_ble_eq_true rfl) dX7_regard_54 (fun H locs hR hS => ?_)
  refine lv_aload_n hx hb dX7_regard_57 rfl (lv_at hl 4 rfl) ?_
  have hd116 := hR.2.2.2.2.2
  refine r_get C hR 7 0 1 (v := .ref (a 6 (gR u0 2))) (lv0 (by decide) (by decide)) (by decide) (by decide) rfl fl_X7_21 dX7_regard_58 ?_
  refine r_get C hR 6 (gR u0 2) 3 (v := .int (gI u0 6 (gR u0 2) 3)) (lv0 hd116 (by decide)) (by decide) (by decide) rfl fl_X7_123 dX7_regard_61 ?_
  refine lv_isub hx hb dX7_regard_64 ?_
  refine lv_topi (fun x117 ex117 => ?_)
  replace h := bd_x ex117 h
  refine lv_istore (lv' := [(7, .int x117), (6, .int x111), (5, .int x109), (4, .int x106), (3, .int x103), (0, .ref (a 7 0)), (1, .int x1), (2, .int x2)]) hx hb dX7_regard_65 hl (by decide) rfl (fun ls hl => ?_)
  refine lv_aload_n hx hb dX7_regard_67 rfl (lv_at hl 5 rfl) ?_
  refine lv_iload_n hx hb dX7_regard_68 rfl (lv_at hl 4 rfl) ?_
  refine lv_iconst (v := (-1)) hx hb dX7_regard_69 (by decide) ?_
  obtain ⟨x118, hz, h⟩ := ob h
  have Kj119 : ∀ (H : Heap) (locs : List Loc) (ls : Array Slot), Rel E a u0 H → va_S (AE E) s.heap H locs → lv_has ls 8 [(0, .ref (a 7 0)), (1, .int x1), (2, .int x2), (3, .int x103), (4, .int x106), (5, .int x109), (6, .int x111), (7, .int x117)] → W p l e { frames := 2, cells := 0, slots := 0, locals := 44 } s m args below meth c H locs 0 0 (MQ below (QW E a none out) args s 0 0 (AE E)) (F0 m 84 ls [.int x118, .ref (a 7 0)]) := by
    intro H locs ls hR hS hl
    clear hz
    obtain ⟨_, hz120, h⟩ := ob h
    refine r_putI (ty := .boolean) C hR hS 7 0 6 (lv0 (by decide) (by decide)) (by decide) (by decide) (fun _ => rfl) fl_X7_39 (by decide) (by decide +kernel) (zb_narrow hz120) (zb_fits hz120) dX7_regard_84 (fun H locs hR hS => ?_)
    obtain ⟨u121, eu121⟩ : ∃ z : HS, z = wI u0 7 0 6 x118 := ⟨_, rfl⟩
    rw [← eu121] at hR
    replace h := bd_x eu121 h
    clear eu121
    refine lv_aload_n hx hb dX7_regard_87 rfl (lv_at hl 0 rfl) ?_
    refine r_get C hR 7 0 5 (v := .ref (a 48 0)) (lv0 (by decide) (by decide)) (by decide) (by decide) rfl fl_X7_36 dX7_regard_88 ?_
    refine lv_iconst (v := 0) hx hb dX7_regard_91 (by decide) ?_
    refine lv_aload_n hx hb dX7_regard_92 rfl (lv_at hl 0 rfl) ?_
    have hd122 := hR.2.2.2.2.2
    refine r_get C hR 7 0 1 (v := .ref (a 6 (gR u121 2))) (lv0 (by decide) (by decide)) (by decide) (by decide) rfl fl_X7_21 dX7_regard_93 ?_
    refine r_get C hR 6 (gR u121 2) 0 (v := .int (gI u121 6 (gR u121 2) 0)) (lv0 hd122 (by decide)) (by decide) (by decide) rfl fl_X7_117 dX7_regard_96 ?_
    refine lv_iload hx hb dX7_regard_99 (lv_at hl 5 rfl) ?_
    refine lv_ishr hx hb dX7_regard_101 ?_
    refine lv_iconst (v := 1) hx hb dX7_regard_102 (by decide) ?_
    refine lv_iand hx hb dX7_regard_103 ?_
    obtain ⟨k123, hk123, h⟩ := ob h
    refine r_ast C hR hS 48 0 (lv0 (by decide) (by decide)) (by decide) rfl (fun _ _ => rfl) rfl hk123 dX7_regard_104 (fun H locs hR hS => ?_)
    obtain ⟨u124, eu124⟩ : ∃ z : HS, z = wI u121 48 0 k123 (((gI u121 6 (gR u121 2) 0) >>> (x109 &&& 31)) &&& 1) := ⟨_, rfl⟩
    rw [← eu124] at hR
    replace h := bd_x eu124 h
    clear eu124
    refine lv_aload_n hx hb dX7_regard_105 rfl (lv_at hl 0 rfl) ?_
    refine r_get C hR 7 0 5 (v := .ref (a 48 0)) (lv0 (by decide) (by decide)) (by decide) (by decide) rfl fl_X7_36 dX7_regard_106 ?_
    refine lv_iconst (v := 1) hx hb dX7_regard_109 (by decide) ?_
    refine lv_aload_n hx hb dX7_regard_110 rfl (lv_at hl 0 rfl) ?_
    have hd125 := hR.2.2.2.2.2
    refine r_get C hR 7 0 1 (v := .ref (a 6 (gR u124 2))) (lv0 (by decide) (by decide)) (by decide) (by decide) rfl fl_X7_21 dX7_regard_111 ?_
    refine r_get C hR 6 (gR u124 2) 1 (v := .int (gI u124 6 (gR u124 2) 1)) (lv0 hd125 (by decide)) (by decide) (by decide) rfl fl_X7_126 dX7_regard_114 ?_
    refine lv_iload hx hb dX7_regard_117 (lv_at hl 5 rfl) ?_
    refine lv_ishr hx hb dX7_regard_119 ?_
    refine lv_iconst (v := 1) hx hb dX7_regard_120 (by decide) ?_
    refine lv_iand hx hb dX7_regard_121 ?_
    obtain ⟨k126, hk126, h⟩ := ob h
    refine r_ast C hR hS 48 0 (lv0 (by decide) (by decide)) (by decide) rfl (fun _ _ => rfl) rfl hk126 dX7_regard_122 (fun H locs hR hS => ?_)
    obtain ⟨u127, eu127⟩ : ∃ z : HS, z = wI u124 48 0 k126 (((gI u124 6 (gR u124 2) 1) >>> (x109 &&& 31)) &&& 1) := ⟨_, rfl⟩
    rw [← eu127] at hR
    replace h := bd_x eu127 h
    clear eu127
    refine lv_aload_n hx hb dX7_regard_123 rfl (lv_at hl 0 rfl) ?_
    refine r_get C hR 7 0 5 (v := .ref (a 48 0)) (lv0 (by decide) (by decide)) (by decide) (by decide) rfl fl_X7_36 dX7_regard_124 ?_
    refine lv_iconst (v := 2) hx hb dX7_regard_127 (by decide) ?_
    refine lv_aload_n hx hb dX7_regard_128 rfl (lv_at hl 0 rfl) ?_
    refine r_get C hR 7 0 6 (v := .int (gI u127 7 0 6)) (lv0 (by decide) (by decide)) (by decide) (by decide) rfl fl_X7_39 dX7_regard_129 ?_
    obtain ⟨x128, hz, h⟩ := ob h
    have Kj129 : ∀ (H : Heap) (locs : List Loc) (ls : Array Slot), Rel E a u127 H → va_S (AE E) s.heap H locs → lv_has ls 8 [(0, .ref (a 7 0)), (1, .int x1), (2, .int x2), (3, .int x103), (4, .int x106), (7, .int x117)] → W p l e { frames := 2, cells := 0, slots := 0, locals := 44 } s m args below meth c H locs 0 0 (MQ below (QW E a none out) args s 0 0 (AE E)) (F0 m 150 ls [.int x128, .int 2, .ref (a 48 0)]) := by
      intro H locs ls hR hS hl
      clear hz
      obtain ⟨k130, hk130, h⟩ := ob h
      refine r_ast C hR hS 48 0 (lv0 (by decide) (by decide)) (by decide) rfl (fun _ _ => rfl) rfl hk130 dX7_regard_150 (fun H locs hR hS => ?_)
      obtain ⟨u131, eu131⟩ : ∃ z : HS, z = wI u127 48 0 k130 x128 := ⟨_, rfl⟩
      rw [← eu131] at hR
      replace h := bd_x eu131 h
      clear eu131
      refine lv_aload_n hx hb dX7_regard_151 rfl (lv_at hl 0 rfl) ?_
      refine r_get C hR 7 0 5 (v := .ref (a 48 0)) (lv0 (by decide) (by decide)) (by decide) (by decide) rfl fl_X7_36 dX7_regard_152 ?_
      refine lv_iconst (v := 3) hx hb dX7_regard_155 (by decide) ?_
      refine lv_aload_n hx hb dX7_regard_156 rfl (lv_at hl 0 rfl) ?_
      refine r_get C hR 7 0 7 (v := .int (gI u131 7 0 7)) (lv0 (by decide) (by decide)) (by decide) (by decide) rfl fl_X7_42 dX7_regard_157 ?_
      refine lv_iconst (v := (-1)) hx hb dX7_regard_160 (by decide) ?_
      obtain ⟨x132, hz, h⟩ := ob h
      have Kj133 : ∀ (H : Heap) (locs : List Loc) (ls : Array Slot), Rel E a u131 H → va_S (AE E) s.heap H locs → lv_has ls 8 [(0, .ref (a 7 0)), (1, .int x1), (2, .int x2), (3, .int x103), (4, .int x106), (7, .int x117)] → W p l e { frames := 2, cells := 0, slots := 0, locals := 44 } s m args below meth c H locs 0 0 (MQ below (QW E a none out) args s 0 0 (AE E)) (F0 m 180 ls [.int x132, .int 3, .ref (a 48 0)]) := by
        intro H locs ls hR hS hl
        clear hz
        obtain ⟨k134, hk134, h⟩ := ob h
        refine r_ast C hR hS 48 0 (lv0 (by decide) (by decide)) (by decide) rfl (fun _ _ => rfl) rfl hk134 dX7_regard_180 (fun H locs hR hS => ?_)
        obtain ⟨u135, eu135⟩ : ∃ z : HS, z = wI u131 48 0 k134 x132 := ⟨_, rfl⟩
        rw [← eu135] at hR
        replace h := bd_x eu135 h
        clear eu135
        refine lv_aload_n hx hb dX7_regard_181 rfl (lv_at hl 0 rfl) ?_
        refine r_get C hR 7 0 5 (v := .ref (a 48 0)) (lv0 (by decide) (by decide)) (by decide) (by decide) rfl fl_X7_36 dX7_regard_182 ?_
        refine lv_iconst (v := 4) hx hb dX7_regard_185 (by decide) ?_
        refine lv_iload_n hx hb dX7_regard_186 rfl (lv_at hl 3 rfl) ?_
        refine lv_iconst (v := (-1)) hx hb dX7_regard_187 (by decide) ?_
        obtain ⟨x136, hz, h⟩ := ob h
        have Kj137 : ∀ (H : Heap) (locs : List Loc) (ls : Array Slot), Rel E a u135 H → va_S (AE E) s.heap H locs → lv_has ls 8 [(0, .ref (a 7 0)), (1, .int x1), (2, .int x2), (7, .int x117)] → W p l e { frames := 2, cells := 0, slots := 0, locals := 44 } s m args below meth c H locs 0 0 (MQ below (QW E a none out) args s 0 0 (AE E)) (F0 m 213 ls [.int x136, .int 4, .ref (a 48 0)]) := by
          intro H locs ls hR hS hl
          clear hz
          obtain ⟨k138, hk138, h⟩ := ob h
          refine r_ast C hR hS 48 0 (lv0 (by decide) (by decide)) (by decide) rfl (fun _ _ => rfl) rfl hk138 dX7_regard_213 (fun H locs hR hS => ?_)
          obtain ⟨u139, eu139⟩ : ∃ z : HS, z = wI u135 48 0 k138 x136 := ⟨_, rfl⟩
          rw [← eu139] at hR
          replace h := bd_x eu139 h
          clear eu139
          refine lv_aload_n hx hb dX7_regard_214 rfl (lv_at hl 0 rfl) ?_
          refine r_get C hR 7 0 5 (v := .ref (a 48 0)) (lv0 (by decide) (by decide)) (by decide) (by decide) rfl fl_X7_36 dX7_regard_215 ?_
          refine lv_iconst (v := 5) hx hb dX7_regard_218 (by decide) ?_
          refine lv_iload hx hb dX7_regard_219 (lv_at hl 3 rfl) ?_
          obtain ⟨x140, hz, h⟩ := ob h
          have Kj141 : ∀ (H : Heap) (locs : List Loc) (ls : Array Slot), Rel E a u139 H → va_S (AE E) s.heap H locs → lv_has ls 8 [(0, .ref (a 7 0)), (1, .int x1), (2, .int x2)] → W p l e { frames := 2, cells := 0, slots := 0, locals := 44 } s m args below meth c H locs 0 0 (MQ below (QW E a none out) args s 0 0 (AE E)) (F0 m 230 ls [.int x140, .int 5, .ref (a 48 0)]) := by
            intro H locs ls hR hS hl
            clear hz
            obtain ⟨k142, hk142, h⟩ := ob h
            refine r_ast C hR hS 48 0 (lv0 (by decide) (by decide)) (by decide) rfl (fun _ _ => rfl) rfl hk142 dX7_regard_230 (fun H locs hR hS => ?_)
            obtain ⟨u143, eu143⟩ : ∃ z : HS, z = wI u139 48 0 k142 x140 := ⟨_, rfl⟩
            rw [← eu143] at hR
            replace h := bd_x eu143 h
            clear eu143
            refine lv_aload_n hx hb dX7_regard_231 rfl (lv_at hl 0 rfl) ?_
            refine r_get C hR 7 0 5 (v := .ref (a 48 0)) (lv0 (by decide) (by decide)) (by decide) (by decide) rfl fl_X7_36 dX7_regard_232 ?_
            refine lv_bipush (v := 6) hx hb dX7_regard_235 (by decide) ?_
            refine lv_iload_n hx hb dX7_regard_237 rfl (lv_at hl 1 rfl) ?_
            refine lv_aload_n hx hb dX7_regard_238 rfl (lv_at hl 0 rfl) ?_
            have hd144 := hR.2.2.2.2.1
            refine r_get C hR 7 0 0 (v := .ref (a 3 (gR u143 1))) (lv0 (by decide) (by decide)) (by decide) (by decide) rfl fl_X7_12 dX7_regard_239 ?_
            refine r_get C hR 3 (gR u143 1) 9 (v := .int (gI u143 3 (gR u143 1) 9)) (lv0 hd144 (by decide)) (by decide) (by decide) rfl fl_X7_136 dX7_regard_242 ?_
            obtain ⟨x145, hz, h⟩ := ob h
            have Kj146 : ∀ (H : Heap) (locs : List Loc) (ls : Array Slot), Rel E a u143 H → va_S (AE E) s.heap H locs → lv_has ls 8 [(0, .ref (a 7 0)), (1, .int x1), (2, .int x2)] → W p l e { frames := 2, cells := 0, slots := 0, locals := 44 } s m args below meth c H locs 0 0 (MQ below (QW E a none out) args s 0 0 (AE E)) (F0 m 253 ls [.int x145, .int 6, .ref (a 48 0)]) := by
              intro H locs ls hR hS hl
              clear hz
              obtain ⟨k147, hk147, h⟩ := ob h
              refine r_ast C hR hS 48 0 (lv0 (by decide) (by decide)) (by decide) rfl (fun _ _ => rfl) rfl hk147 dX7_regard_253 (fun H locs hR hS => ?_)
              obtain ⟨u148, eu148⟩ : ∃ z : HS, z = wI u143 48 0 k147 x145 := ⟨_, rfl⟩
              rw [← eu148] at hR
              replace h := bd_x eu148 h
              clear eu148
              refine lv_aload_n hx hb dX7_regard_254 rfl (lv_at hl 0 rfl) ?_
              refine r_get C hR 7 0 5 (v := .ref (a 48 0)) (lv0 (by decide) (by decide)) (by decide) (by decide) rfl fl_X7_36 dX7_regard_255 ?_
              refine lv_bipush (v := 7) hx hb dX7_regard_258 (by decide) ?_
              refine lv_aload_n hx hb dX7_regard_260 rfl (lv_at hl 0 rfl) ?_
              have hd149 := hR.2.2.2.2.2
              refine r_get C hR 7 0 1 (v := .ref (a 6 (gR u148 2))) (lv0 (by decide) (by decide)) (by decide) (by decide) rfl fl_X7_21 dX7_regard_261 ?_
              refine r_get C hR 6 (gR u148 2) 4 (v := .int (gI u148 6 (gR u148 2) 4)) (lv0 hd149 (by decide)) (by decide) (by decide) rfl fl_X7_139 dX7_regard_264 ?_
              obtain ⟨k150, hk150, h⟩ := ob h
              refine r_ast C hR hS 48 0 (lv0 (by decide) (by decide)) (by decide) rfl (fun _ _ => rfl) rfl hk150 dX7_regard_267 (fun H locs hR hS => ?_)
              obtain ⟨u151, eu151⟩ : ∃ z : HS, z = wI u148 48 0 k150 (gI u148 6 (gR u148 2) 4) := ⟨_, rfl⟩
              rw [← eu151] at hR
              replace h := bd_x eu151 h
              clear eu151
              refine lv_aload_n hx hb dX7_regard_268 rfl (lv_at hl 0 rfl) ?_
              refine r_get C hR 7 0 5 (v := .ref (a 48 0)) (lv0 (by decide) (by decide)) (by decide) (by decide) rfl fl_X7_36 dX7_regard_269 ?_
              refine lv_bipush (v := 8) hx hb dX7_regard_272 (by decide) ?_
              refine lv_aload_n hx hb dX7_regard_274 rfl (lv_at hl 0 rfl) ?_
              have hd152 := hR.2.2.2.2.1
              refine r_get C hR 7 0 0 (v := .ref (a 3 (gR u151 1))) (lv0 (by decide) (by decide)) (by decide) (by decide) rfl fl_X7_12 dX7_regard_275 ?_
              refine lv_iload_n hx hb dX7_regard_278 rfl (lv_at hl 1 rfl) ?_
              refine lv_iload_n hx hb dX7_regard_279 rfl (lv_at hl 2 rfl) ?_
              obtain ⟨x154, hc153, h⟩ := ob h
              refine r_callV1 (As := [.int x1, .int x2]) (rest := [.int 8, .ref (a 48 0)]) (r := 3) (i := (gR u151 1)) C (vX3_turned hd152 hc153) hR hS (lv0 hd152 (by decide)) (by decide) ml_X7_142 mw_X3_turned rfl ⟨Nat.le_of_ble_eq_true rfl, Nat.le_of_ble_eq_true rfl, Nat.le_of_ble_eq_true rfl, Nat.le_of_ble_eq_true rfl⟩ hl.1 rfl (Nat.le_of_ble_eq_true rfl) dX7_regard_280 (fun H locs hR hS => ?_)
              obtain ⟨x155, hz, h⟩ := ob h
              have Kj156 : ∀ (H : Heap) (locs : List Loc) (ls : Array Slot), Rel E a u151 H → va_S (AE E) s.heap H locs → lv_has ls 8 [(0, .ref (a 7 0)), (2, .int x2)] → W p l e { frames := 2, cells := 0, slots := 0, locals := 44 } s m args below meth c H locs 0 0 (MQ below (QW E a none out) args s 0 0 (AE E)) (F0 m 291 ls [.int x155, .int 8, .ref (a 48 0)]) := by
                intro H locs ls hR hS hl
                clear hz
                obtain ⟨k157, hk157, h⟩ := ob h
                refine r_ast C hR hS 48 0 (lv0 (by decide) (by decide)) (by decide) rfl (fun _ _ => rfl) rfl hk157 dX7_regard_291 (fun H locs hR hS => ?_)
                obtain ⟨u158, eu158⟩ : ∃ z : HS, z = wI u151 48 0 k157 x155 := ⟨_, rfl⟩
                rw [← eu158] at hR
                replace h := bd_x eu158 h
                clear eu158
                refine lv_aload_n hx hb dX7_regard_292 rfl (lv_at hl 0 rfl) ?_
                refine r_get C hR 7 0 5 (v := .ref (a 48 0)) (lv0 (by decide) (by decide)) (by decide) (by decide) rfl fl_X7_36 dX7_regard_293 ?_
                refine lv_bipush (v := 9) hx hb dX7_regard_296 (by decide) ?_
                refine lv_aload_n hx hb dX7_regard_298 rfl (lv_at hl 0 rfl) ?_
                refine r_get C hR 7 0 2 (v := .int (gI u158 7 0 2)) (lv0 (by decide) (by decide)) (by decide) (by decide) rfl fl_X7_25 dX7_regard_299 ?_
                obtain ⟨x159, hz, h⟩ := ob h
                have Kj160 : ∀ (H : Heap) (locs : List Loc) (ls : Array Slot), Rel E a u158 H → va_S (AE E) s.heap H locs → lv_has ls 8 [(0, .ref (a 7 0)), (2, .int x2)] → W p l e { frames := 2, cells := 0, slots := 0, locals := 44 } s m args below meth c H locs 0 0 (MQ below (QW E a none out) args s 0 0 (AE E)) (F0 m 310 ls [.int x159, .int 9, .ref (a 48 0)]) := by
                  intro H locs ls hR hS hl
                  clear hz
                  obtain ⟨k161, hk161, h⟩ := ob h
                  refine r_ast C hR hS 48 0 (lv0 (by decide) (by decide)) (by decide) rfl (fun _ _ => rfl) rfl hk161 dX7_regard_310 (fun H locs hR hS => ?_)
                  obtain ⟨u162, eu162⟩ : ∃ z : HS, z = wI u158 48 0 k161 x159 := ⟨_, rfl⟩
                  rw [← eu162] at hR
                  replace h := bd_x eu162 h
                  clear eu162
                  refine lv_aload_n hx hb dX7_regard_311 rfl (lv_at hl 0 rfl) ?_
                  refine r_get C hR 7 0 5 (v := .ref (a 48 0)) (lv0 (by decide) (by decide)) (by decide) (by decide) rfl fl_X7_36 dX7_regard_312 ?_
                  refine lv_bipush (v := 10) hx hb dX7_regard_315 (by decide) ?_
                  refine lv_iload_n hx hb dX7_regard_317 rfl (lv_at hl 1 rfl) ?_
                  obtain ⟨k163, hk163, h⟩ := ob h
                  refine r_ast C hR hS 48 0 (lv0 (by decide) (by decide)) (by decide) rfl (fun _ _ => rfl) rfl hk163 dX7_regard_318 (fun H locs hR hS => ?_)
                  obtain ⟨u164, eu164⟩ : ∃ z : HS, z = wI u162 48 0 k163 x2 := ⟨_, rfl⟩
                  rw [← eu164] at hR
                  replace h := bd_x eu164 h
                  clear eu164
                  cases h
                  exact e_vret C hr hR hS (Nat.le_of_ble_eq_true rfl) (Nat.le_of_ble_eq_true rfl) dX7_regard_319
                clear h
                have h := hz
                clear hz
                refine lv_if_eq (tgt := 309) hx hb dX7_regard_302 (by decide) (fun c_165 => ?_) (fun c_165 => ?_)
                · rw [if_pos c_165] at h
                  refine lv_iconst (v := 0) hx hb dX7_regard_309 (by decide) ?_
                  cases h
                  exact Kj160 _ _ _ hR hS (lv_sub hl [0, 1] rfl)
                · rw [if_neg c_165] at h
                  refine lv_iconst (v := 1) hx hb dX7_regard_305 (by decide) ?_
                  refine lv_goto (tgt := 310) hx hb dX7_regard_306 (by decide) ?_
                  cases h
                  exact Kj160 _ _ _ hR hS (lv_sub hl [0, 1] rfl)
              clear h
              have h := hz
              clear hz
              refine lv_if_eq (tgt := 290) hx hb dX7_regard_283 (by decide) (fun c_166 => ?_) (fun c_166 => ?_)
              · rw [if_pos c_166] at h
                refine lv_iconst (v := 0) hx hb dX7_regard_290 (by decide) ?_
                cases h
                exact Kj156 _ _ _ hR hS (lv_sub hl [0, 2] rfl)
              · rw [if_neg c_166] at h
                refine lv_iconst (v := 1) hx hb dX7_regard_286 (by decide) ?_
                refine lv_goto (tgt := 291) hx hb dX7_regard_287 (by decide) ?_
                cases h
                exact Kj156 _ _ _ hR hS (lv_sub hl [0, 2] rfl)
            clear h
            have h := hz
            clear hz
            refine lv_icmp_ne (tgt := 252) hx hb dX7_regard_245 (by decide) (fun c_167 => ?_) (fun c_167 => ?_)
            · rw [if_neg c_167] at h
              refine lv_iconst (v := 0) hx hb dX7_regard_252 (by decide) ?_
              cases h
              exact Kj146 _ _ _ hR hS (lv_sub hl [0, 1, 2] rfl)
            · rw [if_pos c_167] at h
              refine lv_iconst (v := 1) hx hb dX7_regard_248 (by decide) ?_
              refine lv_goto (tgt := 253) hx hb dX7_regard_249 (by decide) ?_
              cases h
              exact Kj146 _ _ _ hR hS (lv_sub hl [0, 1, 2] rfl)
          clear h
          have h := hz
          clear hz
          refine lv_if_le (tgt := 229) hx hb dX7_regard_221 (by decide) (fun c_168 => ?_) (fun c_168 => ?_)
          · rw [if_pos c_168] at h
            refine lv_iconst (v := 0) hx hb dX7_regard_229 (by decide) ?_
            cases h
            exact Kj141 _ _ _ hR hS (lv_sub hl [0, 1, 2] rfl)
          · rw [if_neg c_168] at h
            refine lv_iload hx hb dX7_regard_224 (lv_at hl 3 rfl) ?_
            refine lv_goto (tgt := 230) hx hb dX7_regard_226 (by decide) ?_
            cases h
            exact Kj141 _ _ _ hR hS (lv_sub hl [0, 1, 2] rfl)
        clear h
        have h := hz
        clear hz
        refine jp_cut h (fun j169 hj169 h => ?_)
        have Kj169 : ∀  (H : Heap) (locs : List Loc) (ls : Array Slot), j169 = some x136 → Rel E a u135 H → va_S (AE E) s.heap H locs → lv_has ls 8 [(0, .ref (a 7 0)), (1, .int x1), (2, .int x2), (7, .int x117)] → W p l e { frames := 2, cells := 0, slots := 0, locals := 44 } s m args below meth c H locs 0 0 (MQ below (QW E a none out) args s 0 0 (AE E)) (F0 m 197 ls [.int 4, .ref (a 48 0)]) := by
          intro  H locs ls h hR hS hl
          replace h := jx0 hj169 h
          refine lv_iconst (v := 0) hx hb dX7_regard_197 (by decide) ?_
          refine lv_goto (tgt := 213) hx hb dX7_regard_198 (by decide) ?_
          cases h
          exact Kj137 _ _ _ hR hS (lv_sub hl [0, 1, 2, 3] rfl)
        refine lv_icmp_eq (tgt := 197) hx hb dX7_regard_188 (by decide) (fun c_170 => ?_) (fun c_170 => ?_)
        · rw [if_pos c_170] at h
          exact Kj169  _ _ _ h hR hS (lv_sub hl [0, 1, 2, 5] rfl)
        · rw [if_neg c_170] at h
          refine lv_iload hx hb dX7_regard_191 (lv_at hl 4 rfl) ?_
          refine lv_iconst (v := (-1)) hx hb dX7_regard_193 (by decide) ?_
          refine lv_icmp_ne (tgt := 201) hx hb dX7_regard_194 (by decide) (fun c_171 => ?_) (fun c_171 => ?_)
          · rw [if_neg c_171] at h
            refine lv_iload_n hx hb dX7_regard_201 rfl (lv_at hl 3 rfl) ?_
            refine lv_iload hx hb dX7_regard_202 (lv_at hl 4 rfl) ?_
            refine lv_iconst (v := 0) hx hb dX7_regard_204 (by decide) ?_
            obtain ⟨x173, hc172, h⟩ := ob h
            refine r_callS1 (As := [.int x103, .int x106, .int 0]) (rest := [.int 4, .ref (a 48 0)]) C (vX7_farther hc172) hR hS ml_X7_129 ms_X7_farther rfl ⟨Nat.le_of_ble_eq_true rfl, Nat.le_of_ble_eq_true rfl, Nat.le_of_ble_eq_true rfl, Nat.le_of_ble_eq_true rfl⟩ hl.1 rfl (Nat.le_of_ble_eq_true rfl) dX7_regard_205 (fun H locs hR hS => ?_)
            refine lv_aload_n hx hb dX7_regard_208 rfl (lv_at hl 0 rfl) ?_
            refine r_get C hR 7 0 9 (v := .int (gI u135 7 0 9)) (lv0 (by decide) (by decide)) (by decide) (by decide) rfl fl_X7_49 dX7_regard_209 ?_
            obtain ⟨_, hn174, h⟩ := ob h
            refine lv_idiv hx hb dX7_regard_212 (nz_ne hn174) ?_
            cases h
            exact Kj137 _ _ _ hR hS (lv_sub hl [0, 1, 2, 5] rfl)
          · rw [if_pos c_171] at h
            exact Kj169  _ _ _ h hR hS (lv_sub hl [0, 1, 2, 5] rfl)
      clear h
      have h := hz
      clear hz
      refine lv_icmp_ne (tgt := 176) hx hb dX7_regard_161 (by decide) (fun c_175 => ?_) (fun c_175 => ?_)
      · rw [if_neg c_175] at h
        refine lv_aload_n hx hb dX7_regard_176 rfl (lv_at hl 0 rfl) ?_
        refine r_get C hR 7 0 7 (v := .int (gI u131 7 0 7)) (lv0 (by decide) (by decide)) (by decide) (by decide) rfl fl_X7_42 dX7_regard_177 ?_
        cases h
        exact Kj133 _ _ _ hR hS (lv_sub hl [0, 1, 2, 3, 4, 5] rfl)
      · rw [if_pos c_175] at h
        refine lv_aload_n hx hb dX7_regard_164 rfl (lv_at hl 0 rfl) ?_
        have hd176 := hR.2.2.2.2.1
        refine r_get C hR 7 0 0 (v := .ref (a 3 (gR u131 1))) (lv0 (by decide) (by decide)) (by decide) (by decide) rfl fl_X7_12 dX7_regard_165 ?_
        refine r_get C hR 3 (gR u131 1) 2 (v := .ref (a 38 (gR u131 1))) (lv0 hd176 (by decide)) (by decide) (by decide) rfl fl_X7_133 dX7_regard_168 ?_
        refine lv_iload_n hx hb dX7_regard_171 rfl (lv_at hl 1 rfl) ?_
        obtain ⟨k177, hk177, h⟩ := ob h
        refine r_ald C hR 38 (gR u131 1) (lv0 hd176 (by decide)) (by decide) rfl (fun _ => rfl) rfl hk177 dX7_regard_172 ?_
        refine lv_goto (tgt := 180) hx hb dX7_regard_173 (by decide) ?_
        cases h
        exact Kj133 _ _ _ hR hS (lv_sub hl [0, 1, 2, 3, 4, 5] rfl)
    clear h
    have h := hz
    clear hz
    refine lv_if_eq (tgt := 148) hx hb dX7_regard_132 (by decide) (fun c_178 => ?_) (fun c_178 => ?_)
    · rw [if_pos c_178] at h
      refine lv_bipush (v := 99) hx hb dX7_regard_148 (by decide) ?_
      cases h
      exact Kj129 _ _ _ hR hS (lv_sub hl [0, 1, 2, 3, 4, 7] rfl)
    · rw [if_neg c_178] at h
      refine lv_iload_n hx hb dX7_regard_135 rfl (lv_at hl 3 rfl) ?_
      refine lv_iload hx hb dX7_regard_136 (lv_at hl 6 rfl) ?_
      refine lv_aload_n hx hb dX7_regard_138 rfl (lv_at hl 0 rfl) ?_
      refine r_get C hR 7 0 8 (v := .int (gI u127 7 0 8)) (lv0 (by decide) (by decide)) (by decide) (by decide) rfl fl_X7_46 dX7_regard_139 ?_
      obtain ⟨x180, hc179, h⟩ := ob h
      refine r_callS1 (As := [.int x103, .int x111, .int (gI u127 7 0 8)]) (rest := [.int 2, .ref (a 48 0)]) C (vX7_farther hc179) hR hS ml_X7_129 ms_X7_farther rfl ⟨Nat.le_of_ble_eq_true rfl, Nat.le_of_ble_eq_true rfl, Nat.le_of_ble_eq_true rfl, Nat.le_of_ble_eq_true rfl⟩ hl.1 rfl (Nat.le_of_ble_eq_true rfl) dX7_regard_142 (fun H locs hR hS => ?_)
      refine lv_goto (tgt := 150) hx hb dX7_regard_145 (by decide) ?_
      cases h
      exact Kj129 _ _ _ hR hS (lv_sub hl [0, 1, 2, 3, 4, 7] rfl)
  clear h
  have h := hz
  clear hz
  refine jp_cut h (fun j181 hj181 h => ?_)
  have Kj181 : ∀  (H : Heap) (locs : List Loc) (ls : Array Slot), j181 = some x118 → Rel E a u0 H → va_S (AE E) s.heap H locs → lv_has ls 8 [(0, .ref (a 7 0)), (1, .int x1), (2, .int x2), (3, .int x103), (4, .int x106), (5, .int x109), (6, .int x111), (7, .int x117)] → W p l e { frames := 2, cells := 0, slots := 0, locals := 44 } s m args below meth c H locs 0 0 (MQ below (QW E a none out) args s 0 0 (AE E)) (F0 m 83 ls [.ref (a 7 0)]) := by
    intro  H locs ls h hR hS hl
    replace h := jx0 hj181 h
    refine lv_iconst (v := 0) hx hb dX7_regard_83 (by decide) ?_
    cases h
    exact Kj119 _ _ _ hR hS (lv_sub hl [0, 1, 2, 3, 4, 5, 6, 7] rfl)
  refine lv_icmp_eq (tgt := 83) hx hb dX7_regard_70 (by decide) (fun c_182 => ?_) (fun c_182 => ?_)
  · rw [if_pos c_182] at h
    exact Kj181  _ _ _ h hR hS (lv_sub hl [5, 6, 7, 4, 3, 2, 1, 0] rfl)
  · rw [if_neg c_182] at h
    refine lv_iload hx hb dX7_regard_73 (lv_at hl 1 rfl) ?_
    refine lv_iconst (v := (-1)) hx hb dX7_regard_75 (by decide) ?_
    refine lv_icmp_eq (tgt := 83) hx hb dX7_regard_76 (by decide) (fun c_183 => ?_) (fun c_183 => ?_)
    · rw [if_pos c_183] at h
      exact Kj181  _ _ _ h hR hS (lv_sub hl [5, 6, 7, 4, 3, 2, 1, 0] rfl)
    · rw [if_neg c_183] at h
      refine lv_iconst (v := 1) hx hb dX7_regard_79 (by decide) ?_
      refine lv_goto (tgt := 84) hx hb dX7_regard_80 (by decide) ?_
      cases h
      exact Kj119 _ _ _ hR hS (lv_sub hl [5, 6, 7, 4, 3, 2, 1, 0] rfl)
set_option maxHeartbeats 4000000 in
set_option maxRecDepth 100000 in
theorem vX4_addFrom {l : Launch} {E : EV} {a : Nat → Nat → Nat} {u0 : HS} {i1 : Nat} {x2 : Int32} {x3 : Int32} {x4 : Int32} {out : HS} (hi1 : i1 < cntS 1) (h : mX4_addFrom u0 i1 x2 x3 x4 = some out) : Ct l E yX4_addFrom cX4_addFrom 6 none 3 71 0 0 a u0 [.ref (a 4 0), .ref (a 1 i1), .int x2, .int x3, .int x4] none out := by
  refine Ct.start (by decide) (Nat.le_of_ble_eq_true rfl) ?_
  intro p e s m args below meth c ls C hr hR hS hl
  have C : Cx E p s m args meth c cX4_addFrom 6 RX4 := C
  have hl : lv_has ls 6 [(0, .ref (a 4 0)), (1, .ref (a 1 i1)), (2, .int x2), (3, .int x3), (4, .int x4)] := hl
  have hx := C.1
  have hb := C.2.1
  unfold mX4_addFrom at h
  refine lv_iload_n hx hb dX4_addFrom_0 rfl (lv_at hl 3 rfl) ?_
  refine lv_istore (lv' := [(5, .int x3), (0, .ref (a 4 0)), (1, .ref (a 1 i1)), (2, .int x2), (3, .int x3), (4, .int x4)]) hx hb dX4_addFrom_1 hl (by decide) rfl (fun ls hl => ?_)
  refine jp_cut h (fun w104 hw104 h => ?_)
  have Kw104 : ∀ (u103 : HS) (H : Heap) (locs : List Loc) (ls : Array Slot), w104 u103 = some out → Rel E a u103 H → va_S (AE E) s.heap H locs → lv_has ls 6 [] → W p l e { frames := 3, cells := 0, slots := 0, locals := 71 } s m args below meth c H locs 0 0 (MQ below (QW E a none out) args s 0 0 (AE E)) (F0 m 40 ls []) := by
    intro u103 H locs ls h hR hS hl
    replace h := jx1 hw104 h
    cases h
    exact e_vret C hr hR hS (Nat.le_of_ble_eq_true rfl) (Nat.le_of_ble_eq_true rfl) dX4_addFrom_40
  have LP : ∀ (fu : Nat) (x101 : Int32) (u102 : HS) (H : Heap) (locs : List Loc) (ls : Array Slot), mX4_addFrom_L3 x4 x2 i1 w104 fu x101 u102 = some out → Rel E a u102 H → va_S (AE E) s.heap H locs → lv_has ls 6 [(0, .ref (a 4 0)), (1, .ref (a 1 i1)), (2, .int x2), (4, .int x4), (5, .int x101)] → W p l e { frames := 3, cells := 0, slots := 0, locals := 71 } s m args below meth c H locs 0 0 (MQ below (QW E a none out) args s 0 0 (AE E)) (F0 m 3 ls []) := by
    intro fu
    induction fu with
    | zero =>
      intro x101 u102 H locs ls h
      have h2 : (none : Option HS) = some out := h
      cases h2
    | succ fu ih =>
      intro x101 u102 H locs ls h hR hS hl
      rw [mX4_addFrom_L3.eq_2] at h
      refine lv_iload hx hb dX4_addFrom_3 (lv_at hl 4 rfl) ?_
      refine lv_iload hx hb dX4_addFrom_5 (lv_at hl 3 rfl) ?_
      refine lv_icmp_gt (tgt := 40) hx hb dX4_addFrom_7 (by decide) (fun c_105 => ?_) (fun c_105 => ?_)
      · rw [if_pos c_105] at h
        exact Kw104 _ _ _ _ h hR hS (lv_sub hl [] rfl)
      · rw [if_neg c_105] at h
        refine lv_aload_n hx hb dX4_addFrom_10 rfl (lv_at hl 0 rfl) ?_
        refine r_get C hR 4 0 0 (v := .ref (a 7 0)) (lv0 (by decide) (by decide)) (by decide) (by decide) rfl fl_X4_29 dX4_addFrom_11 ?_
        refine lv_iload_n hx hb dX4_addFrom_14 rfl (lv_at hl 2 rfl) ?_
        refine lv_iload hx hb dX4_addFrom_15 (lv_at hl 4 rfl) ?_
        obtain ⟨u107, hc106, h⟩ := ob h
        refine r_callV0 (As := [.int x2, .int x101]) (rest := []) (r := 7) (i := 0) C (vX7_regard hc106) hR hS (lv0 (by decide) (by decide)) (by decide) ml_X4_88 mw_X7_regard rfl ⟨Nat.le_of_ble_eq_true rfl, Nat.le_of_ble_eq_true rfl, Nat.le_of_ble_eq_true rfl, Nat.le_of_ble_eq_true rfl⟩ hl.1 rfl (Nat.le_of_ble_eq_true rfl) dX4_addFrom_17 (fun H locs hR hS => ?_)
        refine lv_aload_n hx hb dX4_addFrom_20 rfl (lv_at hl 0 rfl) ?_
        refine lv_dup hx hb dX4_addFrom_21 rfl ?_
        refine r_get C hR 4 0 2 (v := .int (gI u107 4 0 2)) (lv0 (by decide) (by decide)) (by decide) (by decide) rfl fl_X4_15 dX4_addFrom_22 ?_
        refine lv_aload_n hx hb dX4_addFrom_25 rfl (lv_at hl 0 rfl) ?_
        refine lv_aload_n hx hb dX4_addFrom_26 rfl (lv_at hl 1 rfl) ?_
        obtain ⟨⟨x109, u110⟩, hc108, h⟩ := ob h
        replace h := bd_x (x := x109) rfl h
        replace h := bd_x (x := u110) rfl h
        refine r_callV1 (As := [.ref (a 1 i1)]) (rest := [.int (gI u107 4 0 2), .ref (a 4 0)]) (r := 4) (i := 0) C (vX4_getsNow hi1 hc108) hR hS (lv0 (by decide) (by decide)) (by decide) ml_X4_92 mw_X4_getsNow rfl ⟨Nat.le_of_ble_eq_true rfl, Nat.le_of_ble_eq_true rfl, Nat.le_of_ble_eq_true rfl, Nat.le_of_ble_eq_true rfl⟩ hl.1 rfl (Nat.le_of_ble_eq_true rfl) dX4_addFrom_27 (fun H locs hR hS => ?_)
        refine lv_iadd hx hb dX4_addFrom_30 ?_
        refine r_putI (ty := .int) C hR hS 4 0 2 (lv0 (by decide) (by decide)) (by decide) (by decide) (fun _ => rfl) fl_X4_15 (by decide) (by decide +kernel) rfl rfl dX4_addFrom_31 (fun H locs hR hS => ?_)
        obtain ⟨u111, eu111⟩ : ∃ z : HS, z = wI u110 4 0 2 ((gI u107 4 0 2) + x109) := ⟨_, rfl⟩
        rw [← eu111] at hR
        replace h := bd_x eu111 h
        clear eu111
        obtain ⟨x112, ex112⟩ : ∃ z : Int32, z = x101 + 1 := ⟨_, rfl⟩
        replace h := bd_x ex112 h
        refine lv_iinc (v := x112) (lv' := [(5, .int x112), (0, .ref (a 4 0)), (1, .ref (a 1 i1)), (2, .int x2), (4, .int x4)]) hx hb dX4_addFrom_34 hl (k := 4) rfl (by rw [ex112]; rfl) (by decide) rfl (fun ls hl => ?_)
        refine lv_goto (tgt := 3) hx hb dX4_addFrom_37 (by decide) ?_
        exact ih _ _ _ _ _ h hR hS (lv_sub hl [1, 2, 3, 4, 0] rfl)
  exact LP FU _ _ _ _ _ h hR hS (lv_sub hl [1, 2, 3, 5, 0] rfl)
set_option maxHeartbeats 4000000 in
set_option maxRecDepth 100000 in
theorem vX4_sumTo {l : Launch} {E : EV} {a : Nat → Nat → Nat} {u0 : HS} {i1 : Nat} {x2 : Int32} {x3 : Int32} {out : (Int32 × HS)} (hi1 : i1 < cntS 1) (h : mX4_sumTo u0 i1 x2 x3 = some out) : Ct l E yX4_sumTo cX4_sumTo 4 (some .int) 4 96 0 0 a u0 [.ref (a 4 0), .ref (a 1 i1), .int x2, .int x3] (some (.int out.1)) out.2 := by
  refine Ct.start (by decide) (Nat.le_of_ble_eq_true rfl) ?_
  intro p e s m args below meth c ls C hr hR hS hl
  have C : Cx E p s m args meth c cX4_sumTo 4 RX4 := C
  have hl : lv_has ls 4 [(0, .ref (a 4 0)), (1, .ref (a 1 i1)), (2, .int x2), (3, .int x3)] := hl
  have hx := C.1
  have hb := C.2.1
  unfold mX4_sumTo at h
  refine lv_aload_n hx hb dX4_sumTo_0 rfl (lv_at hl 0 rfl) ?_
  refine lv_iconst (v := 0) hx hb dX4_sumTo_1 (by decide) ?_
  refine r_putI (ty := .int) C hR hS 4 0 2 (lv0 (by decide) (by decide)) (by decide) (by decide) (fun _ => rfl) fl_X4_15 (by decide) (by decide +kernel) rfl rfl dX4_sumTo_2 (fun H locs hR hS => ?_)
  obtain ⟨u101, eu101⟩ : ∃ z : HS, z = wI u0 4 0 2 0 := ⟨_, rfl⟩
  rw [← eu101] at hR
  replace h := bd_x eu101 h
  clear eu101
  refine lv_aload_n hx hb dX4_sumTo_5 rfl (lv_at hl 0 rfl) ?_
  refine lv_aload_n hx hb dX4_sumTo_6 rfl (lv_at hl 1 rfl) ?_
  refine lv_iload_n hx hb dX4_sumTo_7 rfl (lv_at hl 2 rfl) ?_
  refine lv_iconst (v := 0) hx hb dX4_sumTo_8 (by decide) ?_
  refine lv_iload_n hx hb dX4_sumTo_9 rfl (lv_at hl 3 rfl) ?_
  obtain ⟨u103, hc102, h⟩ := ob h
  refine r_callV0 (As := [.ref (a 1 i1), .int x2, .int 0, .int x3]) (rest := []) (r := 4) (i := 0) C (vX4_addFrom hi1 hc102) hR hS (lv0 (by decide) (by decide)) (by decide) ml_X4_84 mw_X4_addFrom rfl ⟨Nat.le_of_ble_eq_true rfl, Nat.le_of_ble_eq_true rfl, Nat.le_of_ble_eq_true rfl, Nat.le_of_ble_eq_true rfl⟩ hl.1 rfl (Nat.le_of_ble_eq_true rfl) dX4_sumTo_10 (fun H locs hR hS => ?_)
  refine lv_aload_n hx hb dX4_sumTo_13 rfl (lv_at hl 0 rfl) ?_
  refine r_get C hR 4 0 2 (v := .int (gI u103 4 0 2)) (lv0 (by decide) (by decide)) (by decide) (by decide) rfl fl_X4_15 dX4_sumTo_14 ?_
  cases h
  exact e_iret C hr hR hS (Nat.le_of_ble_eq_true rfl) (Nat.le_of_ble_eq_true rfl) dX4_sumTo_17
set_option maxHeartbeats 4000000 in
set_option maxRecDepth 100000 in
theorem vX4_firstSeen {l : Launch} {E : EV} {a : Nat → Nat → Nat} {u0 : HS} {i1 : Nat} {x2 : Int32} {out : (Int32 × HS)} (hi1 : i1 < cntS 1) (h : mX4_firstSeen u0 i1 x2 = some out) : Ct l E yX4_firstSeen cX4_firstSeen 4 (some .int) 3 74 0 0 a u0 [.ref (a 4 0), .ref (a 1 i1), .int x2] (some (.int out.1)) out.2 := by
  refine Ct.start (by decide) (Nat.le_of_ble_eq_true rfl) ?_
  intro p e s m args below meth c ls C hr hR hS hl
  have C : Cx E p s m args meth c cX4_firstSeen 4 RX4 := C
  have hl : lv_has ls 4 [(0, .ref (a 4 0)), (1, .ref (a 1 i1)), (2, .int x2)] := hl
  have hx := C.1
  have hb := C.2.1
  unfold mX4_firstSeen at h
  refine lv_aload_n hx hb dX4_firstSeen_0 rfl (lv_at hl 0 rfl) ?_
  refine lv_iconst (v := 0) hx hb dX4_firstSeen_1 (by decide) ?_
  refine r_putI (ty := .int) C hR hS 4 0 2 (lv0 (by decide) (by decide)) (by decide) (by decide) (fun _ => rfl) fl_X4_15 (by decide) (by decide +kernel) rfl rfl dX4_firstSeen_2 (fun H locs hR hS => ?_)
  obtain ⟨u101, eu101⟩ : ∃ z : HS, z = wI u0 4 0 2 0 := ⟨_, rfl⟩
  rw [← eu101] at hR
  replace h := bd_x eu101 h
  clear eu101
  refine lv_iconst (v := 0) hx hb dX4_firstSeen_5 (by decide) ?_
  refine lv_istore_n (lv' := [(3, .int 0), (0, .ref (a 4 0)), (1, .ref (a 1 i1)), (2, .int x2)]) hx hb dX4_firstSeen_6 rfl hl (by decide) rfl (fun ls hl => ?_)
  refine jp_cut h (fun w105 hw105 h => ?_)
  have Kw105 : ∀ (u104 : HS) (H : Heap) (locs : List Loc) (ls : Array Slot), w105 u104 = some out → Rel E a u104 H → va_S (AE E) s.heap H locs → lv_has ls 4 [] → W p l e { frames := 3, cells := 0, slots := 0, locals := 74 } s m args below meth c H locs 0 0 (MQ below (QW E a (some (.int out.1)) out.2) args s 0 0 (AE E)) (F0 m 104 ls []) := by
    intro u104 H locs ls h hR hS hl
    replace h := jx1 hw105 h
    refine lv_iconst (v := (-1)) hx hb dX4_firstSeen_104 (by decide) ?_
    cases h
    exact e_iret C hr hR hS (Nat.le_of_ble_eq_true rfl) (Nat.le_of_ble_eq_true rfl) dX4_firstSeen_105
  have LP : ∀ (fu : Nat) (x102 : Int32) (u103 : HS) (H : Heap) (locs : List Loc) (ls : Array Slot), mX4_firstSeen_L7 x2 i1 w105 fu x102 u103 = some out → Rel E a u103 H → va_S (AE E) s.heap H locs → lv_has ls 4 [(0, .ref (a 4 0)), (1, .ref (a 1 i1)), (2, .int x2), (3, .int x102)] → W p l e { frames := 3, cells := 0, slots := 0, locals := 74 } s m args below meth c H locs 0 0 (MQ below (QW E a (some (.int out.1)) out.2) args s 0 0 (AE E)) (F0 m 7 ls []) := by
    intro fu
    induction fu with
    | zero =>
      intro x102 u103 H locs ls h
      have h2 : (none : Option (Int32 × HS)) = some out := h
      cases h2
    | succ fu ih =>
      intro x102 u103 H locs ls h hR hS hl
      rw [mX4_firstSeen_L7.eq_2] at h
      refine lv_iload_n hx hb dX4_firstSeen_7 rfl (lv_at hl 3 rfl) ?_
      refine lv_aload_n hx hb dX4_firstSeen_8 rfl (lv_at hl 0 rfl) ?_
      refine r_get C hR 4 0 0 (v := .ref (a 7 0)) (lv0 (by decide) (by decide)) (by decide) (by decide) rfl fl_X4_29 dX4_firstSeen_9 ?_
      have hd106 := hR.2.2.2.2.1
      refine r_get C hR 7 0 0 (v := .ref (a 3 (gR u103 1))) (lv0 (by decide) (by decide)) (by decide) (by decide) rfl fl_X4_96 dX4_firstSeen_12 ?_
      refine r_get C hR 3 (gR u103 1) 11 (v := .int (gI u103 3 (gR u103 1) 11)) (lv0 hd106 (by decide)) (by decide) (by decide) rfl fl_X4_100 dX4_firstSeen_15 ?_
      refine lv_icmp_gt (tgt := 104) hx hb dX4_firstSeen_18 (by decide) (fun c_107 => ?_) (fun c_107 => ?_)
      · rw [if_pos c_107] at h
        exact Kw105 _ _ _ _ h hR hS (lv_sub hl [] rfl)
      · rw [if_neg c_107] at h
        refine lv_aload_n hx hb dX4_firstSeen_21 rfl (lv_at hl 0 rfl) ?_
        refine r_get C hR 4 0 5 (v := .int (gI u103 4 0 5)) (lv0 (by decide) (by decide)) (by decide) (by decide) rfl fl_X4_25 dX4_firstSeen_22 ?_
        refine jp_cut h (fun j109 hj109 h => ?_)
        have Kj109 : ∀ (u108 : HS) (H : Heap) (locs : List Loc) (ls : Array Slot), j109 u108 = some out → Rel E a u108 H → va_S (AE E) s.heap H locs → lv_has ls 4 [(0, .ref (a 4 0)), (1, .ref (a 1 i1)), (2, .int x2), (3, .int x102)] → W p l e { frames := 3, cells := 0, slots := 0, locals := 74 } s m args below meth c H locs 0 0 (MQ below (QW E a (some (.int out.1)) out.2) args s 0 0 (AE E)) (F0 m 98 ls []) := by
          intro u108 H locs ls h hR hS hl
          replace h := jx1 hj109 h
          obtain ⟨x110, ex110⟩ : ∃ z : Int32, z = x102 + 1 := ⟨_, rfl⟩
          replace h := bd_x ex110 h
          refine lv_iinc (v := x110) (lv' := [(3, .int x110), (0, .ref (a 4 0)), (1, .ref (a 1 i1)), (2, .int x2)]) hx hb dX4_firstSeen_98 hl (k := 3) rfl (by rw [ex110]; rfl) (by decide) rfl (fun ls hl => ?_)
          refine lv_goto (tgt := 7) hx hb dX4_firstSeen_101 (by decide) ?_
          exact ih _ _ _ _ _ h hR hS (lv_sub hl [1, 2, 3, 0] rfl)
        refine jp_cut h (fun j111 hj111 h => ?_)
        have Kj111 : ∀  (H : Heap) (locs : List Loc) (ls : Array Slot), j111 = some out → Rel E a u103 H → va_S (AE E) s.heap H locs → lv_has ls 4 [(0, .ref (a 4 0)), (1, .ref (a 1 i1)), (2, .int x2), (3, .int x102)] → W p l e { frames := 3, cells := 0, slots := 0, locals := 74 } s m args below meth c H locs 0 0 (MQ below (QW E a (some (.int out.1)) out.2) args s 0 0 (AE E)) (F0 m 43 ls []) := by
          intro  H locs ls h hR hS hl
          replace h := jx0 hj111 h
          refine lv_aload_n hx hb dX4_firstSeen_43 rfl (lv_at hl 0 rfl) ?_
          refine r_get C hR 4 0 0 (v := .ref (a 7 0)) (lv0 (by decide) (by decide)) (by decide) (by decide) rfl fl_X4_29 dX4_firstSeen_44 ?_
          refine lv_iload_n hx hb dX4_firstSeen_47 rfl (lv_at hl 2 rfl) ?_
          refine lv_iload_n hx hb dX4_firstSeen_48 rfl (lv_at hl 3 rfl) ?_
          obtain ⟨u113, hc112, h⟩ := ob h
          refine r_callV0 (As := [.int x2, .int x102]) (rest := []) (r := 7) (i := 0) C (vX7_regard hc112) hR hS (lv0 (by decide) (by decide)) (by decide) ml_X4_88 mw_X7_regard rfl ⟨Nat.le_of_ble_eq_true rfl, Nat.le_of_ble_eq_true rfl, Nat.le_of_ble_eq_true rfl, Nat.le_of_ble_eq_true rfl⟩ hl.1 rfl (Nat.le_of_ble_eq_true rfl) dX4_firstSeen_49 (fun H locs hR hS => ?_)
          refine lv_aload_n hx hb dX4_firstSeen_52 rfl (lv_at hl 0 rfl) ?_
          refine lv_dup hx hb dX4_firstSeen_53 rfl ?_
          refine r_get C hR 4 0 2 (v := .int (gI u113 4 0 2)) (lv0 (by decide) (by decide)) (by decide) (by decide) rfl fl_X4_15 dX4_firstSeen_54 ?_
          refine lv_aload_n hx hb dX4_firstSeen_57 rfl (lv_at hl 0 rfl) ?_
          refine lv_aload_n hx hb dX4_firstSeen_58 rfl (lv_at hl 1 rfl) ?_
          obtain ⟨⟨x115, u116⟩, hc114, h⟩ := ob h
          replace h := bd_x (x := x115) rfl h
          replace h := bd_x (x := u116) rfl h
          refine r_callV1 (As := [.ref (a 1 i1)]) (rest := [.int (gI u113 4 0 2), .ref (a 4 0)]) (r := 4) (i := 0) C (vX4_getsNow hi1 hc114) hR hS (lv0 (by decide) (by decide)) (by decide) ml_X4_92 mw_X4_getsNow rfl ⟨Nat.le_of_ble_eq_true rfl, Nat.le_of_ble_eq_true rfl, Nat.le_of_ble_eq_true rfl, Nat.le_of_ble_eq_true rfl⟩ hl.1 rfl (Nat.le_of_ble_eq_true rfl) dX4_firstSeen_59 (fun H locs hR hS => ?_)
          refine lv_aload_n hx hb dX4_firstSeen_62 rfl (lv_at hl 0 rfl) ?_
          obtain ⟨⟨x118, u119⟩, hc117, h⟩ := ob h
          replace h := bd_x (x := x118) rfl h
          replace h := bd_x (x := u119) rfl h
          refine r_callV1 (As := []) (rest := [.int x115, .int (gI u113 4 0 2), .ref (a 4 0)]) (r := 4) (i := 0) C (vX4_drawNow hc117) hR hS (lv0 (by decide) (by decide)) (by decide) ml_X4_109 mw_X4_drawNow rfl ⟨Nat.le_of_ble_eq_true rfl, Nat.le_of_ble_eq_true rfl, Nat.le_of_ble_eq_true rfl, Nat.le_of_ble_eq_true rfl⟩ hl.1 rfl (Nat.le_of_ble_eq_true rfl) dX4_firstSeen_63 (fun H locs hR hS => ?_)
          refine lv_iadd hx hb dX4_firstSeen_66 ?_
          refine lv_iadd hx hb dX4_firstSeen_67 ?_
          refine r_putI (ty := .int) C hR hS 4 0 2 (lv0 (by decide) (by decide)) (by decide) (by decide) (fun _ => rfl) fl_X4_15 (by decide) (by decide +kernel) rfl rfl dX4_firstSeen_68 (fun H locs hR hS => ?_)
          obtain ⟨u120, eu120⟩ : ∃ z : HS, z = wI u119 4 0 2 ((gI u113 4 0 2) + (x115 + x118)) := ⟨_, rfl⟩
          rw [← eu120] at hR
          replace h := bd_x eu120 h
          clear eu120
          refine lv_aload_n hx hb dX4_firstSeen_71 rfl (lv_at hl 0 rfl) ?_
          refine r_get C hR 4 0 2 (v := .int (gI u120 4 0 2)) (lv0 (by decide) (by decide)) (by decide) (by decide) rfl fl_X4_15 dX4_firstSeen_72 ?_
          refine lv_if_le (tgt := 98) hx hb dX4_firstSeen_75 (by decide) (fun c_121 => ?_) (fun c_121 => ?_)
          · rw [if_pos c_121] at h
            exact Kj109 _ _ _ _ h hR hS (lv_sub hl [0, 1, 2, 3] rfl)
          · rw [if_neg c_121] at h
            refine lv_aload_n hx hb dX4_firstSeen_78 rfl (lv_at hl 0 rfl) ?_
            refine r_get C hR 4 0 2 (v := .int (gI u120 4 0 2)) (lv0 (by decide) (by decide)) (by decide) (by decide) rfl fl_X4_15 dX4_firstSeen_79 ?_
            refine lv_aload_n hx hb dX4_firstSeen_82 rfl (lv_at hl 0 rfl) ?_
            refine lv_aload_n hx hb dX4_firstSeen_83 rfl (lv_at hl 1 rfl) ?_
            refine lv_iconst (v := 1) hx hb dX4_firstSeen_84 (by decide) ?_
            refine lv_iconst (v := 1) hx hb dX4_firstSeen_85 (by decide) ?_
            refine lv_ldc (own := RX4) (v := 100000) hx hb C.2.2.2.1 (C.2.2.2.2.1 _ cst_X4_78) dX4_firstSeen_86 ?_
            refine lv_bipush (v := 100) hx hb dX4_firstSeen_88 (by decide) ?_
            obtain ⟨⟨x123, u124⟩, hc122, h⟩ := ob h
            replace h := bd_x (x := x123) rfl h
            replace h := bd_x (x := u124) rfl h
            refine r_callV1 (As := [.ref (a 1 i1), .int 1, .int 1, .int 100000, .int 100]) (rest := [.int (gI u120 4 0 2)]) (r := 4) (i := 0) C (vX4_lastOf hi1 hc122) hR hS (lv0 (by decide) (by decide)) (by decide) ml_X4_79 mw_X4_lastOf rfl ⟨Nat.le_of_ble_eq_true rfl, Nat.le_of_ble_eq_true rfl, Nat.le_of_ble_eq_true rfl, Nat.le_of_ble_eq_true rfl⟩ hl.1 rfl (Nat.le_of_ble_eq_true rfl) dX4_firstSeen_90 (fun H locs hR hS => ?_)
            refine lv_icmp_lt (tgt := 98) hx hb dX4_firstSeen_93 (by decide) (fun c_125 => ?_) (fun c_125 => ?_)
            · rw [if_pos c_125] at h
              exact Kj109 _ _ _ _ h hR hS (lv_sub hl [0, 1, 2, 3] rfl)
            · rw [if_neg c_125] at h
              refine lv_iload_n hx hb dX4_firstSeen_96 rfl (lv_at hl 3 rfl) ?_
              cases h
              exact e_iret C hr hR hS (Nat.le_of_ble_eq_true rfl) (Nat.le_of_ble_eq_true rfl) dX4_firstSeen_97
        refine lv_if_eq (tgt := 43) hx hb dX4_firstSeen_25 (by decide) (fun c_126 => ?_) (fun c_126 => ?_)
        · rw [if_pos c_126] at h
          exact Kj111  _ _ _ h hR hS (lv_sub hl [0, 1, 2, 3] rfl)
        · rw [if_neg c_126] at h
          refine lv_aload_n hx hb dX4_firstSeen_28 rfl (lv_at hl 0 rfl) ?_
          refine r_get C hR 4 0 0 (v := .ref (a 7 0)) (lv0 (by decide) (by decide)) (by decide) (by decide) rfl fl_X4_29 dX4_firstSeen_29 ?_
          have hd127 := hR.2.2.2.2.1
          refine r_get C hR 7 0 0 (v := .ref (a 3 (gR u103 1))) (lv0 (by decide) (by decide)) (by decide) (by decide) rfl fl_X4_96 dX4_firstSeen_32 ?_
          refine lv_iload_n hx hb dX4_firstSeen_35 rfl (lv_at hl 2 rfl) ?_
          refine lv_iload_n hx hb dX4_firstSeen_36 rfl (lv_at hl 3 rfl) ?_
          obtain ⟨x129, hc128, h⟩ := ob h
          refine r_callV1 (As := [.int x2, .int x102]) (rest := []) (r := 3) (i := (gR u103 1)) C (vX3_turned hd127 hc128) hR hS (lv0 hd127 (by decide)) (by decide) ml_X4_105 mw_X3_turned rfl ⟨Nat.le_of_ble_eq_true rfl, Nat.le_of_ble_eq_true rfl, Nat.le_of_ble_eq_true rfl, Nat.le_of_ble_eq_true rfl⟩ hl.1 rfl (Nat.le_of_ble_eq_true rfl) dX4_firstSeen_37 (fun H locs hR hS => ?_)
          refine lv_if_eq (tgt := 98) hx hb dX4_firstSeen_40 (by decide) (fun c_130 => ?_) (fun c_130 => ?_)
          · rw [if_pos c_130] at h
            exact Kj109 _ _ _ _ h hR hS (lv_sub hl [0, 1, 2, 3] rfl)
          · rw [if_neg c_130] at h
            exact Kj111  _ _ _ h hR hS (lv_sub hl [0, 1, 2, 3] rfl)
  exact LP FU _ _ _ _ _ h hR hS (lv_sub hl [1, 2, 3, 0] rfl)
set_option maxHeartbeats 4000000 in
set_option maxRecDepth 100000 in
theorem vX4_judge {l : Launch} {E : EV} {a : Nat → Nat → Nat} {u0 : HS} {i1 : Nat} {out : (Int32 × HS)} (hi1 : i1 < cntS 1) (h : mX4_judge u0 i1 = some out) : Ct l E yX4_judge cX4_judge 6 (some .int) 4 97 0 0 a u0 [.ref (a 4 0), .ref (a 1 i1)] (some (.int out.1)) out.2 := by
  refine Ct.start (by decide) (Nat.le_of_ble_eq_true rfl) ?_
  intro p e s m args below meth c ls C hr hR hS hl
  have C : Cx E p s m args meth c cX4_judge 6 RX4 := C
  have hl : lv_has ls 6 [(0, .ref (a 4 0)), (1, .ref (a 1 i1))] := hl
  have hx := C.1
  have hb := C.2.1
  unfold mX4_judge at h
  refine lv_aload_n hx hb dX4_judge_0 rfl (lv_at hl 0 rfl) ?_
  refine r_get C hR 4 0 0 (v := .ref (a 7 0)) (lv0 (by decide) (by decide)) (by decide) (by decide) rfl fl_X4_29 dX4_judge_1 ?_
  have hd101 := hR.2.2.2.2.1
  refine r_get C hR 7 0 0 (v := .ref (a 3 (gR u0 1))) (lv0 (by decide) (by decide)) (by decide) (by decide) rfl fl_X4_96 dX4_judge_4 ?_
  refine r_get C hR 3 (gR u0 1) 9 (v := .int (gI u0 3 (gR u0 1) 9)) (lv0 hd101 (by decide)) (by decide) (by decide) rfl fl_X4_113 dX4_judge_7 ?_
  refine lv_topi (fun x102 ex102 => ?_)
  replace h := bd_x ex102 h
  refine lv_istore_n (lv' := [(2, .int x102), (0, .ref (a 4 0)), (1, .ref (a 1 i1))]) hx hb dX4_judge_10 rfl hl (by decide) rfl (fun ls hl => ?_)
  refine lv_aload_n hx hb dX4_judge_11 rfl (lv_at hl 1 rfl) ?_
  refine r_get C hR 4 0 0 (v := .ref (a 7 0)) (lv0 (by decide) (by decide)) (by decide) (by decide) rfl fl_X4_29 dX4_judge_12 ?_
  have hd103 := hR.2.2.2.2.1
  refine r_get C hR 7 0 0 (v := .ref (a 3 (gR u0 1))) (lv0 (by decide) (by decide)) (by decide) (by decide) rfl fl_X4_96 dX4_judge_15 ?_
  refine r_get C hR 3 (gR u0 1) 11 (v := .int (gI u0 3 (gR u0 1) 11)) (lv0 hd103 (by decide)) (by decide) (by decide) rfl fl_X4_100 dX4_judge_18 ?_
  refine lv_topi (fun x104 ex104 => ?_)
  replace h := bd_x ex104 h
  refine lv_istore_n (lv' := [(3, .int x104), (2, .int x102), (0, .ref (a 4 0)), (1, .ref (a 1 i1))]) hx hb dX4_judge_21 rfl hl (by decide) rfl (fun ls hl => ?_)
  refine lv_iload_n hx hb dX4_judge_22 rfl (lv_at hl 1 rfl) ?_
  refine lv_iconst (v := (-1)) hx hb dX4_judge_23 (by decide) ?_
  refine jp_cut h (fun j107 hj107 h => ?_)
  have Kj107 : ∀ (x105 : Int32) (u106 : HS) (H : Heap) (locs : List Loc) (ls : Array Slot), j107 x105 u106 = some out → Rel E a u106 H → va_S (AE E) s.heap H locs → lv_has ls 6 [(0, .ref (a 4 0)), (1, .ref (a 1 i1)), (2, .int x102), (3, .int x104)] → W p l e { frames := 4, cells := 0, slots := 0, locals := 97 } s m args below meth c H locs 0 0 (MQ below (QW E a (some (.int out.1)) out.2) args s 0 0 (AE E)) (F0 m 37 ls [.int x105]) := by
    intro x105 u106 H locs ls h hR hS hl
    replace h := jx2 hj107 h
    refine lv_istore (lv' := [(4, .int x105), (0, .ref (a 4 0)), (1, .ref (a 1 i1)), (2, .int x102), (3, .int x104)]) hx hb dX4_judge_37 hl (by decide) rfl (fun ls hl => ?_)
    refine lv_iload hx hb dX4_judge_39 (lv_at hl 0 rfl) ?_
    refine lv_iconst (v := (-1)) hx hb dX4_judge_41 (by decide) ?_
    refine lv_icmp_ne (tgt := 47) hx hb dX4_judge_42 (by decide) (fun c_108 => ?_) (fun c_108 => ?_)
    · rw [if_neg c_108] at h
      refine lv_aload_n hx hb dX4_judge_47 rfl (lv_at hl 1 rfl) ?_
      refine lv_aload_n hx hb dX4_judge_48 rfl (lv_at hl 2 rfl) ?_
      refine lv_iload_n hx hb dX4_judge_49 rfl (lv_at hl 3 rfl) ?_
      refine lv_iload hx hb dX4_judge_50 (lv_at hl 0 rfl) ?_
      refine lv_iconst (v := 1) hx hb dX4_judge_52 (by decide) ?_
      refine lv_iadd hx hb dX4_judge_53 ?_
      refine lv_iload_n hx hb dX4_judge_54 rfl (lv_at hl 4 rfl) ?_
      obtain ⟨u110, hc109, h⟩ := ob h
      refine r_callV0 (As := [.ref (a 1 i1), .int x102, .int (x105 + 1), .int x104]) (rest := []) (r := 4) (i := 0) C (vX4_addFrom hi1 hc109) hR hS (lv0 (by decide) (by decide)) (by decide) ml_X4_84 mw_X4_addFrom rfl ⟨Nat.le_of_ble_eq_true rfl, Nat.le_of_ble_eq_true rfl, Nat.le_of_ble_eq_true rfl, Nat.le_of_ble_eq_true rfl⟩ hl.1 rfl (Nat.le_of_ble_eq_true rfl) dX4_judge_55 (fun H locs hR hS => ?_)
      refine lv_aload_n hx hb dX4_judge_58 rfl (lv_at hl 1 rfl) ?_
      refine r_get C hR 4 0 0 (v := .ref (a 7 0)) (lv0 (by decide) (by decide)) (by decide) (by decide) rfl fl_X4_29 dX4_judge_59 ?_
      refine lv_iload_n hx hb dX4_judge_62 rfl (lv_at hl 3 rfl) ?_
      refine lv_iload_n hx hb dX4_judge_63 rfl (lv_at hl 4 rfl) ?_
      obtain ⟨u112, hc111, h⟩ := ob h
      refine r_callV0 (As := [.int x102, .int x104]) (rest := []) (r := 7) (i := 0) C (vX7_regard hc111) hR hS (lv0 (by decide) (by decide)) (by decide) ml_X4_88 mw_X7_regard rfl ⟨Nat.le_of_ble_eq_true rfl, Nat.le_of_ble_eq_true rfl, Nat.le_of_ble_eq_true rfl, Nat.le_of_ble_eq_true rfl⟩ hl.1 rfl (Nat.le_of_ble_eq_true rfl) dX4_judge_64 (fun H locs hR hS => ?_)
      refine lv_iconst (v := 1) hx hb dX4_judge_67 (by decide) ?_
      refine lv_istore (lv' := [(5, .int 1), (4, .int x105), (0, .ref (a 4 0)), (1, .ref (a 1 i1)), (2, .int x102), (3, .int x104)]) hx hb dX4_judge_68 hl (by decide) rfl (fun ls hl => ?_)
      refine lv_iload_n hx hb dX4_judge_70 rfl (lv_at hl 5 rfl) ?_
      refine lv_iload hx hb dX4_judge_71 (lv_at hl 1 rfl) ?_
      refine lv_isub hx hb dX4_judge_73 ?_
      refine lv_aload_n hx hb dX4_judge_74 rfl (lv_at hl 2 rfl) ?_
      refine lv_aload_n hx hb dX4_judge_75 rfl (lv_at hl 3 rfl) ?_
      refine lv_iconst (v := 2) hx hb dX4_judge_76 (by decide) ?_
      refine lv_iconst (v := 0) hx hb dX4_judge_77 (by decide) ?_
      refine lv_sipush (v := 999) hx hb dX4_judge_78 (by decide) ?_
      refine lv_sipush (v := 999) hx hb dX4_judge_81 (by decide) ?_
      obtain ⟨⟨x114, u115⟩, hc113, h⟩ := ob h
      replace h := bd_x (x := x114) rfl h
      replace h := bd_x (x := u115) rfl h
      refine r_callV1 (As := [.ref (a 1 i1), .int 2, .int 0, .int 999, .int 999]) (rest := [.int (x104 - x105)]) (r := 4) (i := 0) C (vX4_lastOf hi1 hc113) hR hS (lv0 (by decide) (by decide)) (by decide) ml_X4_79 mw_X4_lastOf rfl ⟨Nat.le_of_ble_eq_true rfl, Nat.le_of_ble_eq_true rfl, Nat.le_of_ble_eq_true rfl, Nat.le_of_ble_eq_true rfl⟩ hl.1 rfl (Nat.le_of_ble_eq_true rfl) dX4_judge_84 (fun H locs hR hS => ?_)
      obtain ⟨x116, hz, h⟩ := ob h
      have Kj117 : ∀ (H : Heap) (locs : List Loc) (ls : Array Slot), Rel E a u115 H → va_S (AE E) s.heap H locs → lv_has ls 6 [(0, .ref (a 4 0)), (1, .ref (a 1 i1)), (5, .int x116)] → W p l e { frames := 4, cells := 0, slots := 0, locals := 97 } s m args below meth c H locs 0 0 (MQ below (QW E a (some (.int out.1)) out.2) args s 0 0 (AE E)) (F0 m 96 ls []) := by
        intro H locs ls hR hS hl
        clear hz
        refine lv_aload_n hx hb dX4_judge_96 rfl (lv_at hl 0 rfl) ?_
        refine r_get C hR 4 0 2 (v := .int (gI u115 4 0 2)) (lv0 (by decide) (by decide)) (by decide) (by decide) rfl fl_X4_15 dX4_judge_97 ?_
        refine lv_aload_n hx hb dX4_judge_100 rfl (lv_at hl 0 rfl) ?_
        refine lv_aload_n hx hb dX4_judge_101 rfl (lv_at hl 1 rfl) ?_
        refine lv_iconst (v := 3) hx hb dX4_judge_102 (by decide) ?_
        refine lv_iconst (v := 0) hx hb dX4_judge_103 (by decide) ?_
        refine lv_ldc (own := RX4) (v := 100000) hx hb C.2.2.2.1 (C.2.2.2.2.1 _ cst_X4_78) dX4_judge_104 ?_
        refine lv_iconst (v := 0) hx hb dX4_judge_106 (by decide) ?_
        obtain ⟨⟨x119, u120⟩, hc118, h⟩ := ob h
        replace h := bd_x (x := x119) rfl h
        replace h := bd_x (x := u120) rfl h
        refine r_callV1 (As := [.ref (a 1 i1), .int 3, .int 0, .int 100000, .int 0]) (rest := [.int (gI u115 4 0 2)]) (r := 4) (i := 0) C (vX4_lastOf hi1 hc118) hR hS (lv0 (by decide) (by decide)) (by decide) ml_X4_79 mw_X4_lastOf rfl ⟨Nat.le_of_ble_eq_true rfl, Nat.le_of_ble_eq_true rfl, Nat.le_of_ble_eq_true rfl, Nat.le_of_ble_eq_true rfl⟩ hl.1 rfl (Nat.le_of_ble_eq_true rfl) dX4_judge_107 (fun H locs hR hS => ?_)
        refine lv_icmp_ge (tgt := 119) hx hb dX4_judge_110 (by decide) (fun c_121 => ?_) (fun c_121 => ?_)
        · rw [if_pos c_121] at h
          refine lv_iload hx hb dX4_judge_119 (lv_at hl 2 rfl) ?_
          cases h
          exact e_iret C hr hR hS (Nat.le_of_ble_eq_true rfl) (Nat.le_of_ble_eq_true rfl) dX4_judge_121
        · rw [if_neg c_121] at h
          refine lv_iload hx hb dX4_judge_113 (lv_at hl 2 rfl) ?_
          refine lv_iconst (v := 4) hx hb dX4_judge_115 (by decide) ?_
          refine lv_ior hx hb dX4_judge_116 ?_
          refine lv_topi (fun x122 ex122 => ?_)
          replace h := bd_x ex122 h
          refine lv_istore (lv' := [(5, .int x122), (0, .ref (a 4 0)), (1, .ref (a 1 i1))]) hx hb dX4_judge_117 hl (by decide) rfl (fun ls hl => ?_)
          refine lv_iload hx hb dX4_judge_119 (lv_at hl 0 rfl) ?_
          cases h
          exact e_iret C hr hR hS (Nat.le_of_ble_eq_true rfl) (Nat.le_of_ble_eq_true rfl) dX4_judge_121
      clear h
      have h := hz
      clear hz
      refine lv_icmp_le (tgt := 96) hx hb dX4_judge_87 (by decide) (fun c_123 => ?_) (fun c_123 => ?_)
      · rw [if_pos c_123] at h
        cases h
        exact Kj117 _ _ _ hR hS (lv_sub hl [2, 3, 0] rfl)
      · rw [if_neg c_123] at h
        refine lv_iload hx hb dX4_judge_90 (lv_at hl 0 rfl) ?_
        refine lv_iconst (v := 2) hx hb dX4_judge_92 (by decide) ?_
        refine lv_ior hx hb dX4_judge_93 ?_
        refine lv_topi (fun x124 ex124 => ?_)
        replace h := bd_x ex124 h
        refine lv_istore (lv' := [(5, .int x124), (4, .int x105), (0, .ref (a 4 0)), (1, .ref (a 1 i1)), (2, .int x102), (3, .int x104)]) hx hb dX4_judge_94 hl (by decide) rfl (fun ls hl => ?_)
        cases h
        exact Kj117 _ _ _ hR hS (lv_sub hl [2, 3, 0] rfl)
    · rw [if_pos c_108] at h
      refine lv_iconst (v := 0) hx hb dX4_judge_45 (by decide) ?_
      cases h
      exact e_iret C hr hR hS (Nat.le_of_ble_eq_true rfl) (Nat.le_of_ble_eq_true rfl) dX4_judge_46
  refine lv_icmp_ne (tgt := 31) hx hb dX4_judge_24 (by decide) (fun c_125 => ?_) (fun c_125 => ?_)
  · rw [if_neg c_125] at h
    refine lv_aload_n hx hb dX4_judge_31 rfl (lv_at hl 2 rfl) ?_
    refine lv_aload_n hx hb dX4_judge_32 rfl (lv_at hl 3 rfl) ?_
    refine lv_iload_n hx hb dX4_judge_33 rfl (lv_at hl 1 rfl) ?_
    obtain ⟨⟨x127, u128⟩, hc126, h⟩ := ob h
    replace h := bd_x (x := x127) rfl h
    replace h := bd_x (x := u128) rfl h
    refine r_callV1 (As := [.ref (a 1 i1), .int x102]) (rest := []) (r := 4) (i := 0) C (vX4_firstSeen hi1 hc126) hR hS (lv0 (by decide) (by decide)) (by decide) ml_X4_116 mw_X4_firstSeen rfl ⟨Nat.le_of_ble_eq_true rfl, Nat.le_of_ble_eq_true rfl, Nat.le_of_ble_eq_true rfl, Nat.le_of_ble_eq_true rfl⟩ hl.1 rfl (Nat.le_of_ble_eq_true rfl) dX4_judge_34 (fun H locs hR hS => ?_)
    exact Kj107 _ _ _ _ _ h hR hS (lv_sub hl [2, 3, 1, 0] rfl)
  · rw [if_pos c_125] at h
    refine lv_iconst (v := (-1)) hx hb dX4_judge_27 (by decide) ?_
    refine lv_goto (tgt := 37) hx hb dX4_judge_28 (by decide) ?_
    exact Kj107 _ _ _ _ _ h hR hS (lv_sub hl [2, 3, 1, 0] rfl)
set_option maxHeartbeats 4000000 in
set_option maxRecDepth 100000 in
theorem vX5_hasRoom {l : Launch} {E : EV} {a : Nat → Nat → Nat} {u0 : HS}  {out : Int32} (h : mX5_hasRoom u0 = some out) : Ct l E yX5_hasRoom cX5_hasRoom 1 (some .boolean) 0 0 0 0 a u0 [.ref (a 5 0)] (some (.int out)) u0 := by
  refine Ct.start (by decide) (Nat.le_of_ble_eq_true rfl) ?_
  intro p e s m args below meth c ls C hr hR hS hl
  have C : Cx E p s m args meth c cX5_hasRoom 1 RX5 := C
  have hl : lv_has ls 1 [(0, .ref (a 5 0))] := hl
  have hx := C.1
  have hb := C.2.1
  unfold mX5_hasRoom at h
  refine lv_aload_n hx hb dX5_hasRoom_0 rfl (lv_at hl 0 rfl) ?_
  refine r_get C hR 5 0 1 (v := .int (gI u0 5 0 1)) (lv0 (by decide) (by decide)) (by decide) (by decide) rfl fl_X5_15 dX5_hasRoom_1 ?_
  refine lv_bipush (v := 20) hx hb dX5_hasRoom_4 (by decide) ?_
  refine lv_iadd hx hb dX5_hasRoom_6 ?_
  refine lv_sipush (v := 400) hx hb dX5_hasRoom_7 (by decide) ?_
  refine lv_icmp_gt (tgt := 17) hx hb dX5_hasRoom_10 (by decide) (fun c_101 => ?_) (fun c_101 => ?_)
  · rw [if_pos c_101] at h
    refine lv_iconst (v := 0) hx hb dX5_hasRoom_17 (by decide) ?_
    cases h
    exact e_zret (v := 0) C hr rfl hR hS (Nat.le_of_ble_eq_true rfl) (Nat.le_of_ble_eq_true rfl) dX5_hasRoom_18
  · rw [if_neg c_101] at h
    refine lv_iconst (v := 1) hx hb dX5_hasRoom_13 (by decide) ?_
    refine lv_goto (tgt := 18) hx hb dX5_hasRoom_14 (by decide) ?_
    cases h
    exact e_zret (v := 1) C hr rfl hR hS (Nat.le_of_ble_eq_true rfl) (Nat.le_of_ble_eq_true rfl) dX5_hasRoom_18
set_option maxHeartbeats 4000000 in
set_option maxRecDepth 100000 in
theorem vX5_put {l : Launch} {E : EV} {a : Nat → Nat → Nat} {u0 : HS} {x1 : Int32} {out : HS} (h : mX5_put u0 x1 = some out) : Ct l E yX5_put cX5_put 3 none 0 0 0 0 a u0 [.ref (a 5 0), .int x1] none out := by
  refine Ct.start (by decide) (Nat.le_of_ble_eq_true rfl) ?_
  intro p e s m args below meth c ls C hr hR hS hl
  have C : Cx E p s m args meth c cX5_put 3 RX5 := C
  have hl : lv_has ls 3 [(0, .ref (a 5 0)), (1, .int x1)] := hl
  have hx := C.1
  have hb := C.2.1
  unfold mX5_put at h
  refine lv_bipush (v := 24) hx hb dX5_put_0 (by decide) ?_
  refine lv_istore_n (lv' := [(2, .int 24), (0, .ref (a 5 0)), (1, .int x1)]) hx hb dX5_put_2 rfl hl (by decide) rfl (fun ls hl => ?_)
  refine jp_cut h (fun w104 hw104 h => ?_)
  have Kw104 : ∀ (u103 : HS) (H : Heap) (locs : List Loc) (ls : Array Slot), w104 u103 = some out → Rel E a u103 H → va_S (AE E) s.heap H locs → lv_has ls 3 [] → W p l e { frames := 0, cells := 0, slots := 0, locals := 0 } s m args below meth c H locs 0 0 (MQ below (QW E a none out) args s 0 0 (AE E)) (F0 m 49 ls []) := by
    intro u103 H locs ls h hR hS hl
    replace h := jx1 hw104 h
    cases h
    exact e_vret C hr hR hS (Nat.le_of_ble_eq_true rfl) (Nat.le_of_ble_eq_true rfl) dX5_put_49
  have LP : ∀ (fu : Nat) (x101 : Int32) (u102 : HS) (H : Heap) (locs : List Loc) (ls : Array Slot), mX5_put_L3 x1 w104 fu x101 u102 = some out → Rel E a u102 H → va_S (AE E) s.heap H locs → lv_has ls 3 [(0, .ref (a 5 0)), (1, .int x1), (2, .int x101)] → W p l e { frames := 0, cells := 0, slots := 0, locals := 0 } s m args below meth c H locs 0 0 (MQ below (QW E a none out) args s 0 0 (AE E)) (F0 m 3 ls []) := by
    intro fu
    induction fu with
    | zero =>
      intro x101 u102 H locs ls h
      have h2 : (none : Option HS) = some out := h
      cases h2
    | succ fu ih =>
      intro x101 u102 H locs ls h hR hS hl
      rw [mX5_put_L3.eq_2] at h
      refine lv_iload_n hx hb dX5_put_3 rfl (lv_at hl 2 rfl) ?_
      refine lv_if_lt (tgt := 49) hx hb dX5_put_4 (by decide) (fun c_105 => ?_) (fun c_105 => ?_)
      · rw [if_pos c_105] at h
        exact Kw104 _ _ _ _ h hR hS (lv_sub hl [] rfl)
      · rw [if_neg c_105] at h
        refine lv_aload_n hx hb dX5_put_7 rfl (lv_at hl 0 rfl) ?_
        refine r_get C hR 5 0 1 (v := .int (gI u102 5 0 1)) (lv0 (by decide) (by decide)) (by decide) (by decide) rfl fl_X5_15 dX5_put_8 ?_
        refine lv_sipush (v := 400) hx hb dX5_put_11 (by decide) ?_
        refine lv_icmp_ge (tgt := 49) hx hb dX5_put_14 (by decide) (fun c_106 => ?_) (fun c_106 => ?_)
        · rw [if_pos c_106] at h
          exact Kw104 _ _ _ _ h hR hS (lv_sub hl [] rfl)
        · rw [if_neg c_106] at h
          refine lv_aload_n hx hb dX5_put_17 rfl (lv_at hl 0 rfl) ?_
          refine r_get C hR 5 0 0 (v := .ref (a 45 0)) (lv0 (by decide) (by decide)) (by decide) (by decide) rfl fl_X5_9 dX5_put_18 ?_
          refine lv_aload_n hx hb dX5_put_21 rfl (lv_at hl 0 rfl) ?_
          refine r_get C hR 5 0 1 (v := .int (gI u102 5 0 1)) (lv0 (by decide) (by decide)) (by decide) (by decide) rfl fl_X5_15 dX5_put_22 ?_
          refine lv_iload_n hx hb dX5_put_25 rfl (lv_at hl 1 rfl) ?_
          refine lv_iload_n hx hb dX5_put_26 rfl (lv_at hl 2 rfl) ?_
          refine lv_iushr (v := ushr x1 x101) hx hb dX5_put_27 rfl ?_
          refine lv_sipush (v := 255) hx hb dX5_put_28 (by decide) ?_
          refine lv_iand hx hb dX5_put_31 ?_
          obtain ⟨k107, hk107, h⟩ := ob h
          refine r_ast C hR hS 45 0 (lv0 (by decide) (by decide)) (by decide) rfl (fun _ _ => rfl) rfl hk107 dX5_put_32 (fun H locs hR hS => ?_)
          obtain ⟨u108, eu108⟩ : ∃ z : HS, z = wI u102 45 0 k107 ((ushr x1 x101) &&& 255) := ⟨_, rfl⟩
          rw [← eu108] at hR
          replace h := bd_x eu108 h
          clear eu108
          refine lv_aload_n hx hb dX5_put_33 rfl (lv_at hl 0 rfl) ?_
          refine lv_dup hx hb dX5_put_34 rfl ?_
          refine r_get C hR 5 0 1 (v := .int (gI u108 5 0 1)) (lv0 (by decide) (by decide)) (by decide) (by decide) rfl fl_X5_15 dX5_put_35 ?_
          refine lv_iconst (v := 1) hx hb dX5_put_38 (by decide) ?_
          refine lv_iadd hx hb dX5_put_39 ?_
          refine r_putI (ty := .int) C hR hS 5 0 1 (lv0 (by decide) (by decide)) (by decide) (by decide) (fun _ => rfl) fl_X5_15 (by decide) (by decide +kernel) rfl rfl dX5_put_40 (fun H locs hR hS => ?_)
          obtain ⟨u109, eu109⟩ : ∃ z : HS, z = wI u108 5 0 1 ((gI u108 5 0 1) + 1) := ⟨_, rfl⟩
          rw [← eu109] at hR
          replace h := bd_x eu109 h
          clear eu109
          obtain ⟨x110, ex110⟩ : ∃ z : Int32, z = x101 + (-8) := ⟨_, rfl⟩
          replace h := bd_x ex110 h
          refine lv_iinc (v := x110) (lv' := [(2, .int x110), (0, .ref (a 5 0)), (1, .int x1)]) hx hb dX5_put_43 hl (k := 2) rfl (by rw [ex110]; rfl) (by decide) rfl (fun ls hl => ?_)
          refine lv_goto (tgt := 3) hx hb dX5_put_46 (by decide) ?_
          exact ih _ _ _ _ _ h hR hS (lv_sub hl [1, 2, 0] rfl)
  exact LP FU _ _ _ _ _ h hR hS (lv_sub hl [1, 2, 0] rfl)
set_option maxHeartbeats 4000000 in
set_option maxRecDepth 100000 in
theorem vX5_open {l : Launch} {E : EV} {a : Nat → Nat → Nat} {u0 : HS} {x1 : Int32} {out : HS} (h : mX5_open u0 x1 = some out) : Ct l E yX5_open cX5_open 2 none 0 0 0 0 a u0 [.ref (a 5 0), .int x1] none out := by
  refine Ct.start (by decide) (Nat.le_of_ble_eq_true rfl) ?_
  intro p e s m args below meth c ls C hr hR hS hl
  have C : Cx E p s m args meth c cX5_open 2 RX5 := C
  have hl : lv_has ls 2 [(0, .ref (a 5 0)), (1, .int x1)] := hl
  have hx := C.1
  have hb := C.2.1
  unfold mX5_open at h
  refine lv_aload_n hx hb dX5_open_0 rfl (lv_at hl 0 rfl) ?_
  refine lv_iload_n hx hb dX5_open_1 rfl (lv_at hl 1 rfl) ?_
  refine r_putI (ty := .int) C hR hS 5 0 2 (lv0 (by decide) (by decide)) (by decide) (by decide) (fun _ => rfl) fl_X5_19 (by decide) (by decide +kernel) rfl rfl dX5_open_2 (fun H locs hR hS => ?_)
  obtain ⟨u101, eu101⟩ : ∃ z : HS, z = wI u0 5 0 2 x1 := ⟨_, rfl⟩
  rw [← eu101] at hR
  replace h := bd_x eu101 h
  clear eu101
  refine lv_aload_n hx hb dX5_open_5 rfl (lv_at hl 0 rfl) ?_
  refine lv_iconst (v := 0) hx hb dX5_open_6 (by decide) ?_
  refine r_putI (ty := .int) C hR hS 5 0 1 (lv0 (by decide) (by decide)) (by decide) (by decide) (fun _ => rfl) fl_X5_15 (by decide) (by decide +kernel) rfl rfl dX5_open_7 (fun H locs hR hS => ?_)
  obtain ⟨u102, eu102⟩ : ∃ z : HS, z = wI u101 5 0 1 0 := ⟨_, rfl⟩
  rw [← eu102] at hR
  replace h := bd_x eu102 h
  clear eu102
  refine lv_aload_n hx hb dX5_open_10 rfl (lv_at hl 0 rfl) ?_
  refine lv_iconst (v := 0) hx hb dX5_open_11 (by decide) ?_
  refine r_putI (ty := .int) C hR hS 5 0 3 (lv0 (by decide) (by decide)) (by decide) (by decide) (fun _ => rfl) fl_X5_22 (by decide) (by decide +kernel) rfl rfl dX5_open_12 (fun H locs hR hS => ?_)
  obtain ⟨u103, eu103⟩ : ∃ z : HS, z = wI u102 5 0 3 0 := ⟨_, rfl⟩
  rw [← eu103] at hR
  replace h := bd_x eu103 h
  clear eu103
  refine lv_aload_n hx hb dX5_open_15 rfl (lv_at hl 0 rfl) ?_
  refine lv_iconst (v := 0) hx hb dX5_open_16 (by decide) ?_
  refine r_putI (ty := .int) C hR hS 5 0 4 (lv0 (by decide) (by decide)) (by decide) (by decide) (fun _ => rfl) fl_X5_25 (by decide) (by decide +kernel) rfl rfl dX5_open_17 (fun H locs hR hS => ?_)
  obtain ⟨u104, eu104⟩ : ∃ z : HS, z = wI u103 5 0 4 0 := ⟨_, rfl⟩
  rw [← eu104] at hR
  replace h := bd_x eu104 h
  clear eu104
  refine lv_aload_n hx hb dX5_open_20 rfl (lv_at hl 0 rfl) ?_
  refine lv_iconst (v := 0) hx hb dX5_open_21 (by decide) ?_
  refine r_putI (ty := .int) C hR hS 5 0 5 (lv0 (by decide) (by decide)) (by decide) (by decide) (fun _ => rfl) fl_X5_28 (by decide) (by decide +kernel) rfl rfl dX5_open_22 (fun H locs hR hS => ?_)
  obtain ⟨u105, eu105⟩ : ∃ z : HS, z = wI u104 5 0 5 0 := ⟨_, rfl⟩
  rw [← eu105] at hR
  replace h := bd_x eu105 h
  clear eu105
  refine lv_aload_n hx hb dX5_open_25 rfl (lv_at hl 0 rfl) ?_
  refine lv_iconst (v := (-1)) hx hb dX5_open_26 (by decide) ?_
  refine r_putI (ty := .int) C hR hS 5 0 6 (lv0 (by decide) (by decide)) (by decide) (by decide) (fun _ => rfl) fl_X5_31 (by decide) (by decide +kernel) rfl rfl dX5_open_27 (fun H locs hR hS => ?_)
  obtain ⟨u106, eu106⟩ : ∃ z : HS, z = wI u105 5 0 6 (-1) := ⟨_, rfl⟩
  rw [← eu106] at hR
  replace h := bd_x eu106 h
  clear eu106
  cases h
  exact e_vret C hr hR hS (Nat.le_of_ble_eq_true rfl) (Nat.le_of_ble_eq_true rfl) dX5_open_30
