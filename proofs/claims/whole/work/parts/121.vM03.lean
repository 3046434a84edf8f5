set_option maxHeartbeats 4000000 in
set_option maxRecDepth 100000 in
theorem vX9_getsIn {l : Launch} {E : EV} {a : Nat → Nat → Nat} {u0 : HS} {x1 : Int32} {x2 : Int32} {x3 : Int32} {x4 : Int32} {out : (Int32 × HS)} (h : mX9_getsIn u0 x1 x2 x3 x4 = some out) : Ct l E yX9_getsIn cX9_getsIn 5 (some .int) 7 174 0 0 a u0 [.ref (a 9 0), .int x1, .int x2, .int x3, .int x4] (some (.int out.1)) out.2 := by
  refine Ct.start (by decide) (Nat.le_of_ble_eq_true rfl) ?_
  intro p e s m args below meth c ls C hr hR hS hl
  have C : Cx E p s m args meth c cX9_getsIn 5 RX9 := C
  have hl : lv_has ls 5 [(0, .ref (a 9 0)), (1, .int x1), (2, .int x2), (3, .int x3), (4, .int x4)] := hl
  have hx := C.1
  have hb := C.2.1
  unfold mX9_getsIn at h
  refine lv_aload_n hx hb dX9_getsIn_0 rfl (lv_at hl 0 rfl) ?_
  refine lv_iload_n hx hb dX9_getsIn_1 rfl (lv_at hl 2 rfl) ?_
  refine lv_iload_n hx hb dX9_getsIn_2 rfl (lv_at hl 3 rfl) ?_
  refine lv_iload hx hb dX9_getsIn_3 (lv_at hl 4 rfl) ?_
  obtain ⟨u102, hc101, h⟩ := ob h
  refine r_callV0 (As := [.int x2, .int x3, .int x4]) (rest := []) (r := 9) (i := 0) C (vX9_tellsNames hc101) hR hS (lv0 (by decide) (by decide)) (by decide) ml_X9_329 mw_X9_tellsNames rfl ⟨Nat.le_of_ble_eq_true rfl, Nat.le_of_ble_eq_true rfl, Nat.le_of_ble_eq_true rfl, Nat.le_of_ble_eq_true rfl⟩ hl.1 rfl (Nat.le_of_ble_eq_true rfl) dX9_getsIn_5 (fun H locs hR hS => ?_)
  refine lv_aload_n hx hb dX9_getsIn_8 rfl (lv_at hl 0 rfl) ?_
  refine lv_iload_n hx hb dX9_getsIn_9 rfl (lv_at hl 2 rfl) ?_
  refine lv_iload hx hb dX9_getsIn_10 (lv_at hl 4 rfl) ?_
  obtain ⟨x104, hc103, h⟩ := ob h
  refine r_callV1 (As := [.int x2, .int x4]) (rest := []) (r := 9) (i := 0) C (vX9_isShut hc103) hR hS (lv0 (by decide) (by decide)) (by decide) ml_X9_304 mw_X9_isShut rfl ⟨Nat.le_of_ble_eq_true rfl, Nat.le_of_ble_eq_true rfl, Nat.le_of_ble_eq_true rfl, Nat.le_of_ble_eq_true rfl⟩ hl.1 rfl (Nat.le_of_ble_eq_true rfl) dX9_getsIn_12 (fun H locs hR hS => ?_)
  refine lv_if_ne (tgt := 36) hx hb dX9_getsIn_15 (by decide) (fun c_105 => ?_) (fun c_105 => ?_)
  · rw [if_neg c_105] at h
    refine lv_iconst (v := 0) hx hb dX9_getsIn_36 (by decide) ?_
    refine lv_goto (tgt := 45) hx hb dX9_getsIn_37 (by decide) ?_
    cases h
    exact e_iret C hr hR hS (Nat.le_of_ble_eq_true rfl) (Nat.le_of_ble_eq_true rfl) dX9_getsIn_45
  · rw [if_pos c_105] at h
    refine lv_aload_n hx hb dX9_getsIn_18 rfl (lv_at hl 0 rfl) ?_
    refine lv_aload_n hx hb dX9_getsIn_19 rfl (lv_at hl 0 rfl) ?_
    refine r_get C hR 9 0 33 (v := .ref (a 80 0)) (lv0 (by decide) (by decide)) (by decide) (by decide) rfl fl_X9_61 dX9_getsIn_20 ?_
    refine lv_iload_n hx hb dX9_getsIn_23 rfl (lv_at hl 2 rfl) ?_
    obtain ⟨k106, hk106, h⟩ := ob h
    have hLk106 : k106 < cntS 81 := by have q1 := (ck_in hk106).2.2; have q2 : cntS 81 = 15 := rfl; omega
    refine r_aald C hR 80 0 81 0 6 (lv0 (by decide) (by decide)) (by decide) rfl rfl rfl (fun _ => rfl) rfl hk106 dX9_getsIn_24 ?_
    refine lv_iconst (v := 0) hx hb dX9_getsIn_25 (by decide) ?_
    obtain ⟨k107, hk107, h⟩ := ob h
    refine r_ald C hR 81 k106 (lv0 hLk106 (by decide)) (by decide) rfl (fun _ => rfl) rfl hk107 dX9_getsIn_26 ?_
    refine lv_iload_n hx hb dX9_getsIn_27 rfl (lv_at hl 3 rfl) ?_
    refine lv_iload hx hb dX9_getsIn_28 (lv_at hl 4 rfl) ?_
    obtain ⟨x109, hc108, h⟩ := ob h
    refine r_callV1 (As := [.int (gI u102 81 k106 k107), .int x3, .int x4]) (rest := []) (r := 9) (i := 0) C (vX9_isThere hc108) hR hS (lv0 (by decide) (by decide)) (by decide) ml_X9_241 mw_X9_isThere rfl ⟨Nat.le_of_ble_eq_true rfl, Nat.le_of_ble_eq_true rfl, Nat.le_of_ble_eq_true rfl, Nat.le_of_ble_eq_true rfl⟩ hl.1 rfl (Nat.le_of_ble_eq_true rfl) dX9_getsIn_30 (fun H locs hR hS => ?_)
    refine lv_if_ne (tgt := 40) hx hb dX9_getsIn_33 (by decide) (fun c_110 => ?_) (fun c_110 => ?_)
    · rw [if_neg c_110] at h
      refine lv_aload_n hx hb dX9_getsIn_40 rfl (lv_at hl 0 rfl) ?_
      refine lv_iload_n hx hb dX9_getsIn_41 rfl (lv_at hl 1 rfl) ?_
      obtain ⟨⟨x112, u113⟩, hc111, h⟩ := ob h
      replace h := bd_x (x := x112) rfl h
      replace h := bd_x (x := u113) rfl h
      refine r_callV1 (As := [.int x1]) (rest := []) (r := 9) (i := 0) C (vX9_getsNow hc111) hR hS (lv0 (by decide) (by decide)) (by decide) ml_X9_333 mw_X9_getsNow rfl ⟨Nat.le_of_ble_eq_true rfl, Nat.le_of_ble_eq_true rfl, Nat.le_of_ble_eq_true rfl, Nat.le_of_ble_eq_true rfl⟩ hl.1 rfl (Nat.le_of_ble_eq_true rfl) dX9_getsIn_42 (fun H locs hR hS => ?_)
      cases h
      exact e_iret C hr hR hS (Nat.le_of_ble_eq_true rfl) (Nat.le_of_ble_eq_true rfl) dX9_getsIn_45
    · rw [if_pos c_110] at h
      refine lv_iconst (v := 0) hx hb dX9_getsIn_36 (by decide) ?_
      refine lv_goto (tgt := 45) hx hb dX9_getsIn_37 (by decide) ?_
      cases h
      exact e_iret C hr hR hS (Nat.le_of_ble_eq_true rfl) (Nat.le_of_ble_eq_true rfl) dX9_getsIn_45
set_option maxHeartbeats 4000000 in
set_option maxRecDepth 100000 in
theorem vX9_lineNow {l : Launch} {E : EV} {a : Nat → Nat → Nat} {u0 : HS} {x1 : Int32} {out : (Int32 × HS)} (h : mX9_lineNow u0 x1 = some out) : Ct l E yX9_lineNow cX9_lineNow 2 (some .int) 4 98 0 0 a u0 [.ref (a 9 0), .int x1] (some (.int out.1)) out.2 := by
  refine Ct.start (by decide) (Nat.le_of_ble_eq_true rfl) ?_
  intro p e s m args below meth c ls C hr hR hS hl
  have C : Cx E p s m args meth c cX9_lineNow 2 RX9 := C
  have hl : lv_has ls 2 [(0, .ref (a 9 0)), (1, .int x1)] := hl
  have hx := C.1
  have hb := C.2.1
  unfold mX9_lineNow at h
  refine lv_aload_n hx hb dX9_lineNow_0 rfl (lv_at hl 0 rfl) ?_
  refine lv_iload_n hx hb dX9_lineNow_1 rfl (lv_at hl 1 rfl) ?_
  refine lv_iconst (v := 1) hx hb dX9_lineNow_2 (by decide) ?_
  refine lv_iconst (v := 1) hx hb dX9_lineNow_3 (by decide) ?_
  refine lv_ldc (own := RX9) (v := 100000) hx hb C.2.2.2.1 (C.2.2.2.2.1 _ cst_X9_112) dX9_lineNow_4 ?_
  refine lv_bipush (v := 100) hx hb dX9_lineNow_6 (by decide) ?_
  obtain ⟨⟨x102, u103⟩, hc101, h⟩ := ob h
  replace h := bd_x (x := x102) rfl h
  replace h := bd_x (x := u103) rfl h
  refine r_callV1 (As := [.int x1, .int 1, .int 1, .int 100000, .int 100]) (rest := []) (r := 9) (i := 0) C (vX9_lastOf hc101) hR hS (lv0 (by decide) (by decide)) (by decide) ml_X9_336 mw_X9_lastOf rfl ⟨Nat.le_of_ble_eq_true rfl, Nat.le_of_ble_eq_true rfl, Nat.le_of_ble_eq_true rfl, Nat.le_of_ble_eq_true rfl⟩ hl.1 rfl (Nat.le_of_ble_eq_true rfl) dX9_lineNow_8 (fun H locs hR hS => ?_)
  cases h
  exact e_iret C hr hR hS (Nat.le_of_ble_eq_true rfl) (Nat.le_of_ble_eq_true rfl) dX9_lineNow_11
set_option maxHeartbeats 4000000 in
set_option maxRecDepth 100000 in
theorem vX9_goes {l : Launch} {E : EV} {a : Nat → Nat → Nat} {u0 : HS} {x1 : Int32} {x2 : Int32} {x3 : Int32} {x4 : Int32} {x5 : Int32} {x6 : Int32} {out : HS} (h : mX9_goes u0 x1 x2 x3 x4 x5 x6 = some out) : Ct l E yX9_goes cX9_goes 11 none 8 198 0 0 a u0 [.ref (a 9 0), .int x1, .int x2, .int x3, .int x4, .int x5, .int x6] none out := by
  refine Ct.start (by decide) (Nat.le_of_ble_eq_true rfl) ?_
  intro p e s m args below meth c ls C hr hR hS hl
  have C : Cx E p s m args meth c cX9_goes 11 RX9 := C
  have hl : lv_has ls 11 [(0, .ref (a 9 0)), (1, .int x1), (2, .int x2), (3, .int x3), (4, .int x4), (5, .int x5), (6, .int x6)] := hl
  have hx := C.1
  have hb := C.2.1
  unfold mX9_goes at h
  refine lv_aload_n hx hb dX9_goes_0 rfl (lv_at hl 0 rfl) ?_
  refine lv_aload_n hx hb dX9_goes_1 rfl (lv_at hl 0 rfl) ?_
  refine r_get C hR 9 0 33 (v := .ref (a 80 0)) (lv0 (by decide) (by decide)) (by decide) (by decide) rfl fl_X9_61 dX9_goes_2 ?_
  refine lv_iload_n hx hb dX9_goes_5 rfl (lv_at hl 2 rfl) ?_
  obtain ⟨k101, hk101, h⟩ := ob h
  have hLk101 : k101 < cntS 81 := by have q1 := (ck_in hk101).2.2; have q2 : cntS 81 = 15 := rfl; omega
  refine r_aald C hR 80 0 81 0 6 (lv0 (by decide) (by decide)) (by decide) rfl rfl rfl (fun _ => rfl) rfl hk101 dX9_goes_6 ?_
  refine lv_iconst (v := 0) hx hb dX9_goes_7 (by decide) ?_
  obtain ⟨k102, hk102, h⟩ := ob h
  refine r_ald C hR 81 k101 (lv0 hLk101 (by decide)) (by decide) rfl (fun _ => rfl) rfl hk102 dX9_goes_8 ?_
  obtain ⟨x104, hc103, h⟩ := ob h
  refine r_callV1 (As := [.int (gI u0 81 k101 k102)]) (rest := []) (r := 9) (i := 0) C (vX9_endOf hc103) hR hS (lv0 (by decide) (by decide)) (by decide) ml_X9_260 mw_X9_endOf rfl ⟨Nat.le_of_ble_eq_true rfl, Nat.le_of_ble_eq_true rfl, Nat.le_of_ble_eq_true rfl, Nat.le_of_ble_eq_true rfl⟩ hl.1 rfl (Nat.le_of_ble_eq_true rfl) dX9_goes_9 (fun H locs hR hS => ?_)
  refine lv_istore (lv' := [(7, .int x104), (0, .ref (a 9 0)), (1, .int x1), (2, .int x2), (3, .int x3), (4, .int x4), (5, .int x5), (6, .int x6)]) hx hb dX9_goes_12 hl (by decide) rfl (fun ls hl => ?_)
  refine lv_iload hx hb dX9_goes_14 (lv_at hl 6 rfl) ?_
  refine lv_istore (lv' := [(8, .int x5), (7, .int x104), (0, .ref (a 9 0)), (1, .int x1), (2, .int x2), (3, .int x3), (4, .int x4), (5, .int x5), (6, .int x6)]) hx hb dX9_goes_16 hl (by decide) rfl (fun ls hl => ?_)
  refine lv_aload_n hx hb dX9_goes_18 rfl (lv_at hl 2 rfl) ?_
  refine lv_iconst (v := (-1)) hx hb dX9_goes_19 (by decide) ?_
  refine r_putI (ty := .int) C hR hS 9 0 41 (lv0 (by decide) (by decide)) (by decide) (by decide) (fun _ => rfl) fl_X9_340 (by decide) (by decide +kernel) rfl rfl dX9_goes_20 (fun H locs hR hS => ?_)
  obtain ⟨u105, eu105⟩ : ∃ z : HS, z = wI u0 9 0 41 (-1) := ⟨_, rfl⟩
  rw [← eu105] at hR
  replace h := bd_x eu105 h
  clear eu105
  refine lv_aload_n hx hb dX9_goes_23 rfl (lv_at hl 2 rfl) ?_
  refine lv_iconst (v := 0) hx hb dX9_goes_24 (by decide) ?_
  refine r_putI (ty := .int) C hR hS 9 0 42 (lv0 (by decide) (by decide)) (by decide) (by decide) (fun _ => rfl) fl_X9_343 (by decide) (by decide +kernel) rfl rfl dX9_goes_25 (fun H locs hR hS => ?_)
  obtain ⟨u106, eu106⟩ : ∃ z : HS, z = wI u105 9 0 42 0 := ⟨_, rfl⟩
  rw [← eu106] at hR
  replace h := bd_x eu106 h
  clear eu106
  refine lv_iconst (v := 0) hx hb dX9_goes_28 (by decide) ?_
  refine lv_istore (lv' := [(9, .int 0), (8, .int x5), (7, .int x104), (0, .ref (a 9 0)), (1, .int x1), (2, .int x2), (3, .int x3), (4, .int x4), (5, .int x5), (6, .int x6)]) hx hb dX9_goes_29 hl (by decide) rfl (fun ls hl => ?_)
  refine jp_cut h (fun w111 hw111 h => ?_)
  have Kw111 : ∀ (u110 : HS) (H : Heap) (locs : List Loc) (ls : Array Slot), w111 u110 = some out → Rel E a u110 H → va_S (AE E) s.heap H locs → lv_has ls 11 [] → W p l e { frames := 8, cells := 0, slots := 0, locals := 198 } s m args below meth c H locs 0 0 (MQ below (QW E a none out) args s 0 0 (AE E)) (F0 m 174 ls []) := by
    intro u110 H locs ls h hR hS hl
    replace h := jx1 hw111 h
    cases h
    exact e_vret C hr hR hS (Nat.le_of_ble_eq_true rfl) (Nat.le_of_ble_eq_true rfl) dX9_goes_174
  have LP : ∀ (fu : Nat) (x107 : Int32) (x108 : Int32) (u109 : HS) (H : Heap) (locs : List Loc) (ls : Array Slot), mX9_goes_L31 x104 x1 x2 x3 x6 x4 w111 fu x107 x108 u109 = some out → Rel E a u109 H → va_S (AE E) s.heap H locs → lv_has ls 11 [(0, .ref (a 9 0)), (1, .int x1), (2, .int x2), (3, .int x3), (4, .int x4), (6, .int x6), (7, .int x104), (8, .int x107), (9, .int x108)] → W p l e { frames := 8, cells := 0, slots := 0, locals := 198 } s m args below meth c H locs 0 0 (MQ below (QW E a none out) args s 0 0 (AE E)) (F0 m 31 ls []) := by
    intro fu
    induction fu with
    | zero =>
      intro x107 x108 u109 H locs ls h
      have h2 : (none : Option HS) = some out := h
      cases h2
    | succ fu ih =>
      intro x107 x108 u109 H locs ls h hR hS hl
      rw [mX9_goes_L31.eq_2] at h
      refine lv_iload hx hb dX9_goes_31 (lv_at hl 8 rfl) ?_
      refine lv_iload hx hb dX9_goes_33 (lv_at hl 6 rfl) ?_
      refine lv_icmp_gt (tgt := 174) hx hb dX9_goes_35 (by decide) (fun c_112 => ?_) (fun c_112 => ?_)
      · rw [if_pos c_112] at h
        exact Kw111 _ _ _ _ h hR hS (lv_sub hl [] rfl)
      · rw [if_neg c_112] at h
        refine lv_aload_n hx hb dX9_goes_38 rfl (lv_at hl 0 rfl) ?_
        refine lv_iload_n hx hb dX9_goes_39 rfl (lv_at hl 1 rfl) ?_
        refine lv_iload_n hx hb dX9_goes_40 rfl (lv_at hl 2 rfl) ?_
        refine lv_iload_n hx hb dX9_goes_41 rfl (lv_at hl 3 rfl) ?_
        refine lv_iload hx hb dX9_goes_42 (lv_at hl 8 rfl) ?_
        obtain ⟨⟨x114, u115⟩, hc113, h⟩ := ob h
        replace h := bd_x (x := x114) rfl h
        replace h := bd_x (x := u115) rfl h
        refine r_callV1 (As := [.int x1, .int x2, .int x3, .int x108]) (rest := []) (r := 9) (i := 0) C (vX9_getsIn hc113) hR hS (lv0 (by decide) (by decide)) (by decide) ml_X9_346 mw_X9_getsIn rfl ⟨Nat.le_of_ble_eq_true rfl, Nat.le_of_ble_eq_true rfl, Nat.le_of_ble_eq_true rfl, Nat.le_of_ble_eq_true rfl⟩ hl.1 rfl (Nat.le_of_ble_eq_true rfl) dX9_goes_44 (fun H locs hR hS => ?_)
        refine lv_istore (lv' := [(10, .int x114), (0, .ref (a 9 0)), (1, .int x1), (2, .int x2), (3, .int x3), (4, .int x4), (6, .int x6), (7, .int x104), (8, .int x107), (9, .int x108)]) hx hb dX9_goes_47 hl (by decide) rfl (fun ls hl => ?_)
        refine lv_iload hx hb dX9_goes_49 (lv_at hl 5 rfl) ?_
        refine jp_cut h (fun j118 hj118 h => ?_)
        have Kj118 : ∀ (x116 : Int32) (x117 : Int32) (H : Heap) (locs : List Loc) (ls : Array Slot), j118 x116 x117 = some out → Rel E a u115 H → va_S (AE E) s.heap H locs → lv_has ls 11 [(0, .ref (a 9 0)), (1, .int x1), (2, .int x2), (3, .int x3), (4, .int x4), (6, .int x6), (7, .int x104), (8, .int x116), (9, .int x108), (10, .int x117)] → W p l e { frames := 8, cells := 0, slots := 0, locals := 198 } s m args below meth c H locs 0 0 (MQ below (QW E a none out) args s 0 0 (AE E)) (F0 m 113 ls []) := by
          intro x116 x117 H locs ls h hR hS hl
          replace h := jx2 hj118 h
          refine lv_iload hx hb dX9_goes_113 (lv_at hl 5 rfl) ?_
          obtain ⟨u119, hz, h⟩ := ob h
          have Kj120 : ∀ (H : Heap) (locs : List Loc) (ls : Array Slot), Rel E a u119 H → va_S (AE E) s.heap H locs → lv_has ls 11 [(0, .ref (a 9 0)), (1, .int x1), (2, .int x2), (3, .int x3), (4, .int x4), (6, .int x6), (7, .int x104), (8, .int x116), (9, .int x108)] → W p l e { frames := 8, cells := 0, slots := 0, locals := 198 } s m args below meth c H locs 0 0 (MQ below (QW E a none out) args s 0 0 (AE E)) (F0 m 168 ls []) := by
            intro H locs ls hR hS hl
            clear hz
            obtain ⟨x121, ex121⟩ : ∃ z : Int32, z = x108 + 1 := ⟨_, rfl⟩
            replace h := bd_x ex121 h
            refine lv_iinc (v := x121) (lv' := [(9, .int x121), (0, .ref (a 9 0)), (1, .int x1), (2, .int x2), (3, .int x3), (4, .int x4), (6, .int x6), (7, .int x104), (8, .int x116)]) hx hb dX9_goes_168 hl (k := 8) rfl (by rw [ex121]; rfl) (by decide) rfl (fun ls hl => ?_)
            refine lv_goto (tgt := 31) hx hb dX9_goes_171 (by decide) ?_
            exact ih _ _ _ _ _ _ h hR hS (lv_sub hl [1, 2, 3, 4, 5, 6, 7, 8, 0] rfl)
          clear h
          have h := hz
          clear hz
          refine jp_cut h (fun j122 hj122 h => ?_)
          have Kj122 : ∀  (H : Heap) (locs : List Loc) (ls : Array Slot), j122 = some u119 → Rel E a u115 H → va_S (AE E) s.heap H locs → lv_has ls 11 [(0, .ref (a 9 0)), (1, .int x1), (2, .int x2), (3, .int x3), (4, .int x4), (6, .int x6), (7, .int x104), (8, .int x116), (9, .int x108), (10, .int x117)] → W p l e { frames := 8, cells := 0, slots := 0, locals := 198 } s m args below meth c H locs 0 0 (MQ below (QW E a none out) args s 0 0 (AE E)) (F0 m 131 ls []) := by
            intro  H locs ls h hR hS hl
            replace h := jx0 hj122 h
            refine lv_aload_n hx hb dX9_goes_131 rfl (lv_at hl 0 rfl) ?_
            refine lv_dup hx hb dX9_goes_132 rfl ?_
            refine r_get C hR 9 0 42 (v := .int (gI u115 9 0 42)) (lv0 (by decide) (by decide)) (by decide) (by decide) rfl fl_X9_343 dX9_goes_133 ?_
            refine lv_iload hx hb dX9_goes_136 (lv_at hl 9 rfl) ?_
            refine lv_iadd hx hb dX9_goes_138 ?_
            refine r_putI (ty := .int) C hR hS 9 0 42 (lv0 (by decide) (by decide)) (by decide) (by decide) (fun _ => rfl) fl_X9_343 (by decide) (by decide +kernel) rfl rfl dX9_goes_139 (fun H locs hR hS => ?_)
            obtain ⟨u123, eu123⟩ : ∃ z : HS, z = wI u115 9 0 42 ((gI u115 9 0 42) + x117) := ⟨_, rfl⟩
            rw [← eu123] at hR
            replace h := bd_x eu123 h
            clear eu123
            refine lv_aload_n hx hb dX9_goes_142 rfl (lv_at hl 0 rfl) ?_
            refine r_get C hR 9 0 41 (v := .int (gI u123 9 0 41)) (lv0 (by decide) (by decide)) (by decide) (by decide) rfl fl_X9_340 dX9_goes_143 ?_
            refine lv_iconst (v := (-1)) hx hb dX9_goes_146 (by decide) ?_
            refine lv_icmp_ne (tgt := 168) hx hb dX9_goes_147 (by decide) (fun c_124 => ?_) (fun c_124 => ?_)
            · rw [if_neg c_124] at h
              cases h
              exact Kj120 _ _ _ hR hS (lv_sub hl [0, 1, 2, 3, 4, 5, 6, 7, 8] rfl)
            · rw [if_pos c_124] at h
              refine lv_aload_n hx hb dX9_goes_150 rfl (lv_at hl 0 rfl) ?_
              refine r_get C hR 9 0 42 (v := .int (gI u123 9 0 42)) (lv0 (by decide) (by decide)) (by decide) (by decide) rfl fl_X9_343 dX9_goes_151 ?_
              refine lv_aload_n hx hb dX9_goes_154 rfl (lv_at hl 0 rfl) ?_
              refine lv_iload_n hx hb dX9_goes_155 rfl (lv_at hl 1 rfl) ?_
              obtain ⟨⟨x126, u127⟩, hc125, h⟩ := ob h
              replace h := bd_x (x := x126) rfl h
              replace h := bd_x (x := u127) rfl h
              refine r_callV1 (As := [.int x1]) (rest := [.int (gI u123 9 0 42)]) (r := 9) (i := 0) C (vX9_lineNow hc125) hR hS (lv0 (by decide) (by decide)) (by decide) ml_X9_350 mw_X9_lineNow rfl ⟨Nat.le_of_ble_eq_true rfl, Nat.le_of_ble_eq_true rfl, Nat.le_of_ble_eq_true rfl, Nat.le_of_ble_eq_true rfl⟩ hl.1 rfl (Nat.le_of_ble_eq_true rfl) dX9_goes_156 (fun H locs hR hS => ?_)
              refine lv_icmp_lt (tgt := 168) hx hb dX9_goes_159 (by decide) (fun c_128 => ?_) (fun c_128 => ?_)
              · rw [if_pos c_128] at h
                cases h
                exact Kj120 _ _ _ hR hS (lv_sub hl [0, 1, 2, 3, 4, 5, 6, 7, 8] rfl)
              · rw [if_neg c_128] at h
                refine lv_aload_n hx hb dX9_goes_162 rfl (lv_at hl 0 rfl) ?_
                refine lv_iload hx hb dX9_goes_163 (lv_at hl 8 rfl) ?_
                refine r_putI (ty := .int) C hR hS 9 0 41 (lv0 (by decide) (by decide)) (by decide) (by decide) (fun _ => rfl) fl_X9_340 (by decide) (by decide +kernel) rfl rfl dX9_goes_165 (fun H locs hR hS => ?_)
                obtain ⟨u129, eu129⟩ : ∃ z : HS, z = wI u127 9 0 41 x108 := ⟨_, rfl⟩
                rw [← eu129] at hR
                replace h := bd_x eu129 h
                clear eu129
                cases h
                exact Kj120 _ _ _ hR hS (lv_sub hl [0, 1, 2, 3, 4, 5, 6, 7, 8] rfl)
          refine lv_if_eq (tgt := 131) hx hb dX9_goes_115 (by decide) (fun c_130 => ?_) (fun c_130 => ?_)
          · rw [if_pos c_130] at h
            exact Kj122  _ _ _ h hR hS (lv_sub hl [0, 1, 2, 3, 4, 5, 6, 7, 8, 9] rfl)
          · rw [if_neg c_130] at h
            refine lv_aload_n hx hb dX9_goes_118 rfl (lv_at hl 0 rfl) ?_
            refine r_get C hR 9 0 27 (v := .ref (a 79 0)) (lv0 (by decide) (by decide)) (by decide) (by decide) rfl fl_X9_55 dX9_goes_119 ?_
            refine lv_bipush (v := 8) hx hb dX9_goes_122 (by decide) ?_
            obtain ⟨k131, hk131, h⟩ := ob h
            refine r_ald C hR 79 0 (lv0 (by decide) (by decide)) (by decide) rfl (fun _ => rfl) rfl hk131 dX9_goes_124 ?_
            refine lv_if_ne (tgt := 131) hx hb dX9_goes_125 (by decide) (fun c_132 => ?_) (fun c_132 => ?_)
            · rw [if_neg c_132] at h
              exact Kj122  _ _ _ h hR hS (lv_sub hl [0, 1, 2, 3, 4, 5, 6, 7, 8, 9] rfl)
            · rw [if_pos c_132] at h
              refine lv_goto (tgt := 168) hx hb dX9_goes_128 (by decide) ?_
              cases h
              exact Kj120 _ _ _ hR hS (lv_sub hl [0, 1, 2, 3, 4, 5, 6, 7, 8] rfl)
        refine lv_if_le (tgt := 113) hx hb dX9_goes_51 (by decide) (fun c_133 => ?_) (fun c_133 => ?_)
        · rw [if_pos c_133] at h
          exact Kj118 _ _ _ _ _ h hR hS (lv_sub hl [1, 2, 3, 4, 5, 6, 7, 8, 9, 0] rfl)
        · rw [if_neg c_133] at h
          refine lv_aload_n hx hb dX9_goes_54 rfl (lv_at hl 1 rfl) ?_
          refine lv_iload_n hx hb dX9_goes_55 rfl (lv_at hl 3 rfl) ?_
          refine lv_iload hx hb dX9_goes_56 (lv_at hl 9 rfl) ?_
          obtain ⟨x135, hc134, h⟩ := ob h
          refine r_callV1 (As := [.int x2, .int x108]) (rest := []) (r := 9) (i := 0) C (vX9_isShut hc134) hR hS (lv0 (by decide) (by decide)) (by decide) ml_X9_304 mw_X9_isShut rfl ⟨Nat.le_of_ble_eq_true rfl, Nat.le_of_ble_eq_true rfl, Nat.le_of_ble_eq_true rfl, Nat.le_of_ble_eq_true rfl⟩ hl.1 rfl (Nat.le_of_ble_eq_true rfl) dX9_goes_58 (fun H locs hR hS => ?_)
          refine lv_if_ne (tgt := 113) hx hb dX9_goes_61 (by decide) (fun c_136 => ?_) (fun c_136 => ?_)
          · rw [if_neg c_136] at h
            exact Kj118 _ _ _ _ _ h hR hS (lv_sub hl [1, 2, 3, 4, 5, 6, 7, 8, 9, 0] rfl)
          · rw [if_pos c_136] at h
            refine lv_aload_n hx hb dX9_goes_64 rfl (lv_at hl 1 rfl) ?_
            refine lv_aload_n hx hb dX9_goes_65 rfl (lv_at hl 1 rfl) ?_
            refine r_get C hR 9 0 33 (v := .ref (a 80 0)) (lv0 (by decide) (by decide)) (by decide) (by decide) rfl fl_X9_61 dX9_goes_66 ?_
            refine lv_iload_n hx hb dX9_goes_69 rfl (lv_at hl 3 rfl) ?_
            obtain ⟨k137, hk137, h⟩ := ob h
            have hLk137 : k137 < cntS 81 := by have q1 := (ck_in hk137).2.2; have q2 : cntS 81 = 15 := rfl; omega
            refine r_aald C hR 80 0 81 0 6 (lv0 (by decide) (by decide)) (by decide) rfl rfl rfl (fun _ => rfl) rfl hk137 dX9_goes_70 ?_
            refine lv_iconst (v := 0) hx hb dX9_goes_71 (by decide) ?_
            obtain ⟨k138, hk138, h⟩ := ob h
            refine r_ald C hR 81 k137 (lv0 hLk137 (by decide)) (by decide) rfl (fun _ => rfl) rfl hk138 dX9_goes_72 ?_
            refine lv_iload_n hx hb dX9_goes_73 rfl (lv_at hl 4 rfl) ?_
            refine lv_iload hx hb dX9_goes_74 (lv_at hl 9 rfl) ?_
            obtain ⟨x140, hc139, h⟩ := ob h
            refine r_callV1 (As := [.int (gI u115 81 k137 k138), .int x3, .int x108]) (rest := []) (r := 9) (i := 0) C (vX9_isThere hc139) hR hS (lv0 (by decide) (by decide)) (by decide) ml_X9_241 mw_X9_isThere rfl ⟨Nat.le_of_ble_eq_true rfl, Nat.le_of_ble_eq_true rfl, Nat.le_of_ble_eq_true rfl, Nat.le_of_ble_eq_true rfl⟩ hl.1 rfl (Nat.le_of_ble_eq_true rfl) dX9_goes_76 (fun H locs hR hS => ?_)
            refine lv_if_eq (tgt := 113) hx hb dX9_goes_79 (by decide) (fun c_141 => ?_) (fun c_141 => ?_)
            · rw [if_pos c_141] at h
              exact Kj118 _ _ _ _ _ h hR hS (lv_sub hl [1, 2, 3, 4, 5, 6, 7, 8, 9, 0] rfl)
            · rw [if_neg c_141] at h
              refine lv_iload hx hb dX9_goes_82 (lv_at hl 8 rfl) ?_
              refine lv_ldcw (own := RX9) (v := 1103515245) hx hb C.2.2.2.1 (C.2.2.2.2.1 _ cst_X9_349) dX9_goes_84 ?_
              refine lv_imul hx hb dX9_goes_87 ?_
              refine lv_sipush (v := 12345) hx hb dX9_goes_88 (by decide) ?_
              refine lv_iadd hx hb dX9_goes_91 ?_
              refine lv_topi (fun x142 ex142 => ?_)
              replace h := bd_x ex142 h
              refine lv_istore (lv' := [(8, .int x142), (10, .int x114), (0, .ref (a 9 0)), (1, .int x1), (2, .int x2), (3, .int x3), (4, .int x4), (6, .int x6), (7, .int x104), (9, .int x108)]) hx hb dX9_goes_92 hl (by decide) rfl (fun ls hl => ?_)
              refine lv_iload hx hb dX9_goes_94 (lv_at hl 1 rfl) ?_
              refine lv_iload hx hb dX9_goes_96 (lv_at hl 0 rfl) ?_
              refine lv_bipush (v := 16) hx hb dX9_goes_98 (by decide) ?_
              refine lv_ishr hx hb dX9_goes_100 ?_
              refine lv_sipush (v := 32767) hx hb dX9_goes_101 (by decide) ?_
              refine lv_iand hx hb dX9_goes_104 ?_
              refine lv_iload hx hb dX9_goes_105 (lv_at hl 6 rfl) ?_
              refine lv_iconst (v := 1) hx hb dX9_goes_107 (by decide) ?_
              refine lv_iadd hx hb dX9_goes_108 ?_
              obtain ⟨_, hn143, h⟩ := ob h
              refine lv_irem hx hb dX9_goes_109 (nz_ne hn143) ?_
              refine lv_iadd hx hb dX9_goes_110 ?_
              refine lv_topi (fun x144 ex144 => ?_)
              replace h := bd_x ex144 h
              refine lv_istore (lv' := [(10, .int x144), (8, .int x142), (0, .ref (a 9 0)), (1, .int x1), (2, .int x2), (3, .int x3), (4, .int x4), (6, .int x6), (7, .int x104), (9, .int x108)]) hx hb dX9_goes_111 hl (by decide) rfl (fun ls hl => ?_)
              exact Kj118 _ _ _ _ _ h hR hS (lv_sub hl [2, 3, 4, 5, 6, 7, 8, 1, 9, 0] rfl)
  exact LP FU _ _ _ _ _ _ h hR hS (lv_sub hl [3, 4, 5, 6, 7, 9, 2, 1, 0] rfl)
set_option maxHeartbeats 4000000 in
set_option maxRecDepth 100000 in
theorem vX9_seenOf {l : Launch} {E : EV} {a : Nat → Nat → Nat} {u0 : HS} {x1 : Int32} {x2 : Int32} {x3 : Int32} {out : (Int32 × HS)} (h : mX9_seenOf u0 x1 x2 x3 = some out) : Ct l E yX9_seenOf cX9_seenOf 4 (some .int) 9 228 0 0 a u0 [.ref (a 9 0), .int x1, .int x2, .int x3] (some (.int out.1)) out.2 := by
  refine Ct.start (by decide) (Nat.le_of_ble_eq_true rfl) ?_
  intro p e s m args below meth c ls C hr hR hS hl
  have C : Cx E p s m args meth c cX9_seenOf 4 RX9 := C
  have hl : lv_has ls 4 [(0, .ref (a 9 0)), (1, .int x1), (2, .int x2), (3, .int x3)] := hl
  have hx := C.1
  have hb := C.2.1
  unfold mX9_seenOf at h
  refine lv_aload_n hx hb dX9_seenOf_0 rfl (lv_at hl 0 rfl) ?_
  refine lv_iload_n hx hb dX9_seenOf_1 rfl (lv_at hl 1 rfl) ?_
  refine lv_iload_n hx hb dX9_seenOf_2 rfl (lv_at hl 2 rfl) ?_
  refine lv_iload_n hx hb dX9_seenOf_3 rfl (lv_at hl 3 rfl) ?_
  refine lv_iconst (v := 0) hx hb dX9_seenOf_4 (by decide) ?_
  refine lv_iconst (v := 0) hx hb dX9_seenOf_5 (by decide) ?_
  refine lv_iconst (v := 0) hx hb dX9_seenOf_6 (by decide) ?_
  obtain ⟨u102, hc101, h⟩ := ob h
  refine r_callV0 (As := [.int x1, .int x2, .int x3, .int 0, .int 0, .int 0]) (rest := []) (r := 9) (i := 0) C (vX9_goes hc101) hR hS (lv0 (by decide) (by decide)) (by decide) ml_X9_353 mw_X9_goes rfl ⟨Nat.le_of_ble_eq_true rfl, Nat.le_of_ble_eq_true rfl, Nat.le_of_ble_eq_true rfl, Nat.le_of_ble_eq_true rfl⟩ hl.1 rfl (Nat.le_of_ble_eq_true rfl) dX9_seenOf_7 (fun H locs hR hS => ?_)
  refine lv_aload_n hx hb dX9_seenOf_10 rfl (lv_at hl 0 rfl) ?_
  refine r_get C hR 9 0 41 (v := .int (gI u102 9 0 41)) (lv0 (by decide) (by decide)) (by decide) (by decide) rfl fl_X9_340 dX9_seenOf_11 ?_
  cases h
  exact e_iret C hr hR hS (Nat.le_of_ble_eq_true rfl) (Nat.le_of_ble_eq_true rfl) dX9_seenOf_14
set_option maxHeartbeats 4000000 in
set_option maxRecDepth 100000 in
theorem vX9_gets {l : Launch} {E : EV} {a : Nat → Nat → Nat} {u0 : HS} {x1 : Int32} {x2 : Int32} {x3 : Int32} {x4 : Int32} {x5 : Int32} {out : (Int32 × HS)} (h : mX9_gets u0 x1 x2 x3 x4 x5 = some out) : Ct l E yX9_gets cX9_gets 8 (some .int) 8 198 0 0 a u0 [.ref (a 9 0), .int x1, .int x2, .int x3, .int x4, .int x5] (some (.int out.1)) out.2 := by
  refine Ct.start (by decide) (Nat.le_of_ble_eq_true rfl) ?_
  intro p e s m args below meth c ls C hr hR hS hl
  have C : Cx E p s m args meth c cX9_gets 8 RX9 := C
  have hl : lv_has ls 8 [(0, .ref (a 9 0)), (1, .int x1), (2, .int x2), (3, .int x3), (4, .int x4), (5, .int x5)] := hl
  have hx := C.1
  have hb := C.2.1
  unfold mX9_gets at h
  refine lv_aload_n hx hb dX9_gets_0 rfl (lv_at hl 0 rfl) ?_
  refine lv_iconst (v := 0) hx hb dX9_gets_1 (by decide) ?_
  refine r_putI (ty := .int) C hR hS 9 0 0 (lv0 (by decide) (by decide)) (by decide) (by decide) (fun _ => rfl) fl_X9_76 (by decide) (by decide +kernel) rfl rfl dX9_gets_2 (fun H locs hR hS => ?_)
  obtain ⟨u101, eu101⟩ : ∃ z : HS, z = wI u0 9 0 0 0 := ⟨_, rfl⟩
  rw [← eu101] at hR
  replace h := bd_x eu101 h
  clear eu101
  refine lv_aload_n hx hb dX9_gets_5 rfl (lv_at hl 0 rfl) ?_
  refine lv_aload_n hx hb dX9_gets_6 rfl (lv_at hl 0 rfl) ?_
  refine lv_iload_n hx hb dX9_gets_7 rfl (lv_at hl 1 rfl) ?_
  obtain ⟨x103, hc102, h⟩ := ob h
  refine r_callV1 (As := [.int x1]) (rest := [.ref (a 9 0)]) (r := 9) (i := 0) C (vX9_isLaw hc102) hR hS (lv0 (by decide) (by decide)) (by decide) ml_X9_357 mw_X9_isLaw rfl ⟨Nat.le_of_ble_eq_true rfl, Nat.le_of_ble_eq_true rfl, Nat.le_of_ble_eq_true rfl, Nat.le_of_ble_eq_true rfl⟩ hl.1 rfl (Nat.le_of_ble_eq_true rfl) dX9_gets_8 (fun H locs hR hS => ?_)
  obtain ⟨x104, hz, h⟩ := ob h
  have Kj105 : ∀ (H : Heap) (locs : List Loc) (ls : Array Slot), Rel E a u101 H → va_S (AE E) s.heap H locs → lv_has ls 8 [(0, .ref (a 9 0)), (1, .int x1), (2, .int x2), (3, .int x3), (4, .int x4), (5, .int x5)] → W p l e { frames := 8, cells := 0, slots := 0, locals := 198 } s m args below meth c H locs 0 0 (MQ below (QW E a (some (.int out.1)) out.2) args s 0 0 (AE E)) (F0 m 19 ls [.int x104, .ref (a 9 0)]) := by
    intro H locs ls hR hS hl
    clear hz
    refine lv_iconst (v := 1) hx hb dX9_gets_19 (by decide) ?_
    obtain ⟨⟨x107, u108⟩, hc106, h⟩ := ob h
    replace h := bd_x (x := x107) rfl h
    replace h := bd_x (x := u108) rfl h
    refine r_callV1 (As := [.int x104, .int 1]) (rest := []) (r := 9) (i := 0) C (vX9_bad hc106) hR hS (lv0 (by decide) (by decide)) (by decide) ml_X9_162 mw_X9_bad rfl ⟨Nat.le_of_ble_eq_true rfl, Nat.le_of_ble_eq_true rfl, Nat.le_of_ble_eq_true rfl, Nat.le_of_ble_eq_true rfl⟩ hl.1 rfl (Nat.le_of_ble_eq_true rfl) dX9_gets_20 (fun H locs hR hS => ?_)
    refine lv_if_ne (tgt := 91) hx hb dX9_gets_23 (by decide) (fun c_109 => ?_) (fun c_109 => ?_)
    · rw [if_neg c_109] at h
      refine lv_iconst (v := 0) hx hb dX9_gets_91 (by decide) ?_
      cases h
      exact e_iret C hr hR hS (Nat.le_of_ble_eq_true rfl) (Nat.le_of_ble_eq_true rfl) dX9_gets_92
    · rw [if_pos c_109] at h
      refine lv_aload_n hx hb dX9_gets_26 rfl (lv_at hl 0 rfl) ?_
      refine lv_aload_n hx hb dX9_gets_27 rfl (lv_at hl 0 rfl) ?_
      refine lv_iload_n hx hb dX9_gets_28 rfl (lv_at hl 2 rfl) ?_
      obtain ⟨x111, hc110, h⟩ := ob h
      refine r_callV1 (As := [.int x2]) (rest := [.ref (a 9 0)]) (r := 9) (i := 0) C (vX9_isLooker hc110) hR hS (lv0 (by decide) (by decide)) (by decide) ml_X9_295 mw_X9_isLooker rfl ⟨Nat.le_of_ble_eq_true rfl, Nat.le_of_ble_eq_true rfl, Nat.le_of_ble_eq_true rfl, Nat.le_of_ble_eq_true rfl⟩ hl.1 rfl (Nat.le_of_ble_eq_true rfl) dX9_gets_29 (fun H locs hR hS => ?_)
      obtain ⟨x112, hz, h⟩ := ob h
      have Kj113 : ∀ (H : Heap) (locs : List Loc) (ls : Array Slot), Rel E a u108 H → va_S (AE E) s.heap H locs → lv_has ls 8 [(0, .ref (a 9 0)), (1, .int x1), (2, .int x2), (3, .int x3), (4, .int x4), (5, .int x5)] → W p l e { frames := 8, cells := 0, slots := 0, locals := 198 } s m args below meth c H locs 0 0 (MQ below (QW E a (some (.int out.1)) out.2) args s 0 0 (AE E)) (F0 m 40 ls [.int x112, .ref (a 9 0)]) := by
        intro H locs ls hR hS hl
        clear hz
        refine lv_iconst (v := 2) hx hb dX9_gets_40 (by decide) ?_
        obtain ⟨⟨x115, u116⟩, hc114, h⟩ := ob h
        replace h := bd_x (x := x115) rfl h
        replace h := bd_x (x := u116) rfl h
        refine r_callV1 (As := [.int x112, .int 2]) (rest := []) (r := 9) (i := 0) C (vX9_bad hc114) hR hS (lv0 (by decide) (by decide)) (by decide) ml_X9_162 mw_X9_bad rfl ⟨Nat.le_of_ble_eq_true rfl, Nat.le_of_ble_eq_true rfl, Nat.le_of_ble_eq_true rfl, Nat.le_of_ble_eq_true rfl⟩ hl.1 rfl (Nat.le_of_ble_eq_true rfl) dX9_gets_41 (fun H locs hR hS => ?_)
        refine lv_if_ne (tgt := 91) hx hb dX9_gets_44 (by decide) (fun c_117 => ?_) (fun c_117 => ?_)
        · rw [if_neg c_117] at h
          refine lv_iconst (v := 0) hx hb dX9_gets_91 (by decide) ?_
          cases h
          exact e_iret C hr hR hS (Nat.le_of_ble_eq_true rfl) (Nat.le_of_ble_eq_true rfl) dX9_gets_92
        · rw [if_pos c_117] at h
          refine lv_aload_n hx hb dX9_gets_47 rfl (lv_at hl 0 rfl) ?_
          refine lv_aload_n hx hb dX9_gets_48 rfl (lv_at hl 0 rfl) ?_
          refine lv_iload_n hx hb dX9_gets_49 rfl (lv_at hl 2 rfl) ?_
          refine lv_iload_n hx hb dX9_gets_50 rfl (lv_at hl 3 rfl) ?_
          obtain ⟨x119, hc118, h⟩ := ob h
          refine r_callV1 (As := [.int x2, .int x3]) (rest := [.ref (a 9 0)]) (r := 9) (i := 0) C (vX9_isThing hc118) hR hS (lv0 (by decide) (by decide)) (by decide) ml_X9_326 mw_X9_isThing rfl ⟨Nat.le_of_ble_eq_true rfl, Nat.le_of_ble_eq_true rfl, Nat.le_of_ble_eq_true rfl, Nat.le_of_ble_eq_true rfl⟩ hl.1 rfl (Nat.le_of_ble_eq_true rfl) dX9_gets_51 (fun H locs hR hS => ?_)
          obtain ⟨x120, hz, h⟩ := ob h
          have Kj121 : ∀ (H : Heap) (locs : List Loc) (ls : Array Slot), Rel E a u116 H → va_S (AE E) s.heap H locs → lv_has ls 8 [(0, .ref (a 9 0)), (1, .int x1), (2, .int x2), (3, .int x3), (4, .int x4), (5, .int x5)] → W p l e { frames := 8, cells := 0, slots := 0, locals := 198 } s m args below meth c H locs 0 0 (MQ below (QW E a (some (.int out.1)) out.2) args s 0 0 (AE E)) (F0 m 84 ls [.int x120, .ref (a 9 0)]) := by
            intro H locs ls hR hS hl
            clear hz
            refine lv_iconst (v := 2) hx hb dX9_gets_84 (by decide) ?_
            obtain ⟨⟨x123, u124⟩, hc122, h⟩ := ob h
            replace h := bd_x (x := x123) rfl h
            replace h := bd_x (x := u124) rfl h
            refine r_callV1 (As := [.int x120, .int 2]) (rest := []) (r := 9) (i := 0) C (vX9_bad hc122) hR hS (lv0 (by decide) (by decide)) (by decide) ml_X9_162 mw_X9_bad rfl ⟨Nat.le_of_ble_eq_true rfl, Nat.le_of_ble_eq_true rfl, Nat.le_of_ble_eq_true rfl, Nat.le_of_ble_eq_true rfl⟩ hl.1 rfl (Nat.le_of_ble_eq_true rfl) dX9_gets_85 (fun H locs hR hS => ?_)
            refine lv_if_eq (tgt := 93) hx hb dX9_gets_88 (by decide) (fun c_125 => ?_) (fun c_125 => ?_)
            · rw [if_pos c_125] at h
              refine lv_iload hx hb dX9_gets_93 (lv_at hl 5 rfl) ?_
              refine lv_if_ne (tgt := 108) hx hb dX9_gets_95 (by decide) (fun c_126 => ?_) (fun c_126 => ?_)
              · rw [if_neg c_126] at h
                refine lv_iload hx hb dX9_gets_108 (lv_at hl 5 rfl) ?_
                refine lv_iconst (v := 1) hx hb dX9_gets_110 (by decide) ?_
                refine lv_icmp_ne (tgt := 150) hx hb dX9_gets_111 (by decide) (fun c_127 => ?_) (fun c_127 => ?_)
                · rw [if_neg c_127] at h
                  refine lv_aload_n hx hb dX9_gets_150 rfl (lv_at hl 0 rfl) ?_
                  refine lv_iload_n hx hb dX9_gets_151 rfl (lv_at hl 2 rfl) ?_
                  refine lv_iload_n hx hb dX9_gets_152 rfl (lv_at hl 3 rfl) ?_
                  refine lv_iload hx hb dX9_gets_153 (lv_at hl 4 rfl) ?_
                  obtain ⟨u129, hc128, h⟩ := ob h
                  refine r_callV0 (As := [.int x2, .int x3, .int x4]) (rest := []) (r := 9) (i := 0) C (vX9_tellsNames hc128) hR hS (lv0 (by decide) (by decide)) (by decide) ml_X9_329 mw_X9_tellsNames rfl ⟨Nat.le_of_ble_eq_true rfl, Nat.le_of_ble_eq_true rfl, Nat.le_of_ble_eq_true rfl, Nat.le_of_ble_eq_true rfl⟩ hl.1 rfl (Nat.le_of_ble_eq_true rfl) dX9_gets_155 (fun H locs hR hS => ?_)
                  refine lv_aload_n hx hb dX9_gets_158 rfl (lv_at hl 0 rfl) ?_
                  refine lv_iload_n hx hb dX9_gets_159 rfl (lv_at hl 1 rfl) ?_
                  obtain ⟨⟨x131, u132⟩, hc130, h⟩ := ob h
                  replace h := bd_x (x := x131) rfl h
                  replace h := bd_x (x := u132) rfl h
                  refine r_callV1 (As := [.int x1]) (rest := []) (r := 9) (i := 0) C (vX9_lineNow hc130) hR hS (lv0 (by decide) (by decide)) (by decide) ml_X9_350 mw_X9_lineNow rfl ⟨Nat.le_of_ble_eq_true rfl, Nat.le_of_ble_eq_true rfl, Nat.le_of_ble_eq_true rfl, Nat.le_of_ble_eq_true rfl⟩ hl.1 rfl (Nat.le_of_ble_eq_true rfl) dX9_gets_160 (fun H locs hR hS => ?_)
                  cases h
                  exact e_iret C hr hR hS (Nat.le_of_ble_eq_true rfl) (Nat.le_of_ble_eq_true rfl) dX9_gets_163
                · rw [if_pos c_127] at h
                  refine lv_iconst (v := 0) hx hb dX9_gets_114 (by decide) ?_
                  refine lv_istore (lv' := [(6, .int 0), (0, .ref (a 9 0)), (1, .int x1), (2, .int x2), (3, .int x3), (4, .int x4), (5, .int x5)]) hx hb dX9_gets_115 hl (by decide) rfl (fun ls hl => ?_)
                  refine lv_iconst (v := 0) hx hb dX9_gets_117 (by decide) ?_
                  refine lv_istore (lv' := [(7, .int 0), (6, .int 0), (0, .ref (a 9 0)), (1, .int x1), (2, .int x2), (3, .int x3), (4, .int x4), (5, .int x5)]) hx hb dX9_gets_118 hl (by decide) rfl (fun ls hl => ?_)
                  refine jp_cut h (fun w138 hw138 h => ?_)
                  have Kw138 : ∀ (x136 : Int32) (u137 : HS) (H : Heap) (locs : List Loc) (ls : Array Slot), w138 x136 u137 = some out → Rel E a u137 H → va_S (AE E) s.heap H locs → lv_has ls 8 [(6, .int x136)] → W p l e { frames := 8, cells := 0, slots := 0, locals := 198 } s m args below meth c H locs 0 0 (MQ below (QW E a (some (.int out.1)) out.2) args s 0 0 (AE E)) (F0 m 147 ls []) := by
                    intro x136 u137 H locs ls h hR hS hl
                    replace h := jx2 hw138 h
                    refine lv_iload hx hb dX9_gets_147 (lv_at hl 0 rfl) ?_
                    cases h
                    exact e_iret C hr hR hS (Nat.le_of_ble_eq_true rfl) (Nat.le_of_ble_eq_true rfl) dX9_gets_149
                  have LP : ∀ (fu : Nat) (x133 : Int32) (x134 : Int32) (u135 : HS) (H : Heap) (locs : List Loc) (ls : Array Slot), mX9_gets_L120 x4 x1 x2 x3 w138 fu x133 x134 u135 = some out → Rel E a u135 H → va_S (AE E) s.heap H locs → lv_has ls 8 [(0, .ref (a 9 0)), (1, .int x1), (2, .int x2), (3, .int x3), (4, .int x4), (6, .int x133), (7, .int x134)] → W p l e { frames := 8, cells := 0, slots := 0, locals := 198 } s m args below meth c H locs 0 0 (MQ below (QW E a (some (.int out.1)) out.2) args s 0 0 (AE E)) (F0 m 120 ls []) := by
                    intro fu
                    induction fu with
                    | zero =>
                      intro x133 x134 u135 H locs ls h
                      have h2 : (none : Option (Int32 × HS)) = some out := h
                      cases h2
                    | succ fu ih =>
                      intro x133 x134 u135 H locs ls h hR hS hl
                      rw [mX9_gets_L120.eq_2] at h
                      refine lv_iload hx hb dX9_gets_120 (lv_at hl 6 rfl) ?_
                      refine lv_iload hx hb dX9_gets_122 (lv_at hl 4 rfl) ?_
                      refine lv_icmp_gt (tgt := 147) hx hb dX9_gets_124 (by decide) (fun c_139 => ?_) (fun c_139 => ?_)
                      · rw [if_pos c_139] at h
                        exact Kw138 _ _ _ _ _ h hR hS (lv_sub hl [5] rfl)
                      · rw [if_neg c_139] at h
                        refine lv_iload hx hb dX9_gets_127 (lv_at hl 5 rfl) ?_
                        refine lv_aload_n hx hb dX9_gets_129 rfl (lv_at hl 0 rfl) ?_
                        refine lv_iload_n hx hb dX9_gets_130 rfl (lv_at hl 1 rfl) ?_
                        refine lv_iload_n hx hb dX9_gets_131 rfl (lv_at hl 2 rfl) ?_
                        refine lv_iload_n hx hb dX9_gets_132 rfl (lv_at hl 3 rfl) ?_
                        refine lv_iload hx hb dX9_gets_133 (lv_at hl 6 rfl) ?_
                        obtain ⟨⟨x141, u142⟩, hc140, h⟩ := ob h
                        replace h := bd_x (x := x141) rfl h
                        replace h := bd_x (x := u142) rfl h
                        refine r_callV1 (As := [.int x1, .int x2, .int x3, .int x134]) (rest := [.int x133]) (r := 9) (i := 0) C (vX9_getsIn hc140) hR hS (lv0 (by decide) (by decide)) (by decide) ml_X9_346 mw_X9_getsIn rfl ⟨Nat.le_of_ble_eq_true rfl, Nat.le_of_ble_eq_true rfl, Nat.le_of_ble_eq_true rfl, Nat.le_of_ble_eq_true rfl⟩ hl.1 rfl (Nat.le_of_ble_eq_true rfl) dX9_gets_135 (fun H locs hR hS => ?_)
                        refine lv_iadd hx hb dX9_gets_138 ?_
                        refine lv_topi (fun x143 ex143 => ?_)
                        replace h := bd_x ex143 h
                        refine lv_istore (lv' := [(6, .int x143), (0, .ref (a 9 0)), (1, .int x1), (2, .int x2), (3, .int x3), (4, .int x4), (7, .int x134)]) hx hb dX9_gets_139 hl (by decide) rfl (fun ls hl => ?_)
                        obtain ⟨x144, ex144⟩ : ∃ z : Int32, z = x134 + 1 := ⟨_, rfl⟩
                        replace h := bd_x ex144 h
                        refine lv_iinc (v := x144) (lv' := [(7, .int x144), (6, .int x143), (0, .ref (a 9 0)), (1, .int x1), (2, .int x2), (3, .int x3), (4, .int x4)]) hx hb dX9_gets_141 hl (k := 6) rfl (by rw [ex144]; rfl) (by decide) rfl (fun ls hl => ?_)
                        refine lv_goto (tgt := 120) hx hb dX9_gets_144 (by decide) ?_
                        exact ih _ _ _ _ _ _ h hR hS (lv_sub hl [2, 3, 4, 5, 6, 1, 0] rfl)
                  exact LP FU _ _ _ _ _ _ h hR hS (lv_sub hl [2, 3, 4, 5, 6, 1, 0] rfl)
              · rw [if_pos c_126] at h
                refine lv_aload_n hx hb dX9_gets_98 rfl (lv_at hl 0 rfl) ?_
                refine lv_iload_n hx hb dX9_gets_99 rfl (lv_at hl 1 rfl) ?_
                refine lv_iload_n hx hb dX9_gets_100 rfl (lv_at hl 2 rfl) ?_
                refine lv_iload_n hx hb dX9_gets_101 rfl (lv_at hl 3 rfl) ?_
                refine lv_iload hx hb dX9_gets_102 (lv_at hl 4 rfl) ?_
                obtain ⟨⟨x146, u147⟩, hc145, h⟩ := ob h
                replace h := bd_x (x := x146) rfl h
                replace h := bd_x (x := u147) rfl h
                refine r_callV1 (As := [.int x1, .int x2, .int x3, .int x4]) (rest := []) (r := 9) (i := 0) C (vX9_getsIn hc145) hR hS (lv0 (by decide) (by decide)) (by decide) ml_X9_346 mw_X9_getsIn rfl ⟨Nat.le_of_ble_eq_true rfl, Nat.le_of_ble_eq_true rfl, Nat.le_of_ble_eq_true rfl, Nat.le_of_ble_eq_true rfl⟩ hl.1 rfl (Nat.le_of_ble_eq_true rfl) dX9_gets_104 (fun H locs hR hS => ?_)
                cases h
                exact e_iret C hr hR hS (Nat.le_of_ble_eq_true rfl) (Nat.le_of_ble_eq_true rfl) dX9_gets_107
            · rw [if_neg c_125] at h
              refine lv_iconst (v := 0) hx hb dX9_gets_91 (by decide) ?_
              cases h
              exact e_iret C hr hR hS (Nat.le_of_ble_eq_true rfl) (Nat.le_of_ble_eq_true rfl) dX9_gets_92
          clear h
          have h := hz
          clear hz
          refine jp_cut h (fun j148 hj148 h => ?_)
          have Kj148 : ∀  (H : Heap) (locs : List Loc) (ls : Array Slot), j148 = some x120 → Rel E a u116 H → va_S (AE E) s.heap H locs → lv_has ls 8 [(0, .ref (a 9 0)), (1, .int x1), (2, .int x2), (3, .int x3), (4, .int x4), (5, .int x5)] → W p l e { frames := 8, cells := 0, slots := 0, locals := 198 } s m args below meth c H locs 0 0 (MQ below (QW E a (some (.int out.1)) out.2) args s 0 0 (AE E)) (F0 m 79 ls [.ref (a 9 0)]) := by
            intro  H locs ls h hR hS hl
            replace h := jx0 hj148 h
            refine lv_iconst (v := 1) hx hb dX9_gets_79 (by decide) ?_
            refine lv_goto (tgt := 84) hx hb dX9_gets_80 (by decide) ?_
            cases h
            exact Kj121 _ _ _ hR hS (lv_sub hl [0, 1, 2, 3, 4, 5] rfl)
          refine lv_if_eq (tgt := 79) hx hb dX9_gets_54 (by decide) (fun c_149 => ?_) (fun c_149 => ?_)
          · rw [if_pos c_149] at h
            exact Kj148  _ _ _ h hR hS (lv_sub hl [0, 1, 2, 3, 4, 5] rfl)
          · rw [if_neg c_149] at h
            refine lv_iload hx hb dX9_gets_57 (lv_at hl 4 rfl) ?_
            refine lv_iconst (v := 0) hx hb dX9_gets_59 (by decide) ?_
            refine lv_sipush (v := 299) hx hb dX9_gets_60 (by decide) ?_
            obtain ⟨x151, hc150, h⟩ := ob h
            refine r_callS1 (As := [.int x4, .int 0, .int 299]) (rest := [.ref (a 9 0)]) C (vX9_in hc150) hR hS ml_X9_113 ms_X9_in rfl ⟨Nat.le_of_ble_eq_true rfl, Nat.le_of_ble_eq_true rfl, Nat.le_of_ble_eq_true rfl, Nat.le_of_ble_eq_true rfl⟩ hl.1 rfl (Nat.le_of_ble_eq_true rfl) dX9_gets_63 (fun H locs hR hS => ?_)
            refine lv_if_eq (tgt := 79) hx hb dX9_gets_66 (by decide) (fun c_152 => ?_) (fun c_152 => ?_)
            · rw [if_pos c_152] at h
              exact Kj148  _ _ _ h hR hS (lv_sub hl [0, 1, 2, 3, 4, 5] rfl)
            · rw [if_neg c_152] at h
              refine lv_iload hx hb dX9_gets_69 (lv_at hl 5 rfl) ?_
              refine lv_iconst (v := 0) hx hb dX9_gets_71 (by decide) ?_
              refine lv_iconst (v := 2) hx hb dX9_gets_72 (by decide) ?_
              obtain ⟨x154, hc153, h⟩ := ob h
              refine r_callS1 (As := [.int x5, .int 0, .int 2]) (rest := [.ref (a 9 0)]) C (vX9_in hc153) hR hS ml_X9_113 ms_X9_in rfl ⟨Nat.le_of_ble_eq_true rfl, Nat.le_of_ble_eq_true rfl, Nat.le_of_ble_eq_true rfl, Nat.le_of_ble_eq_true rfl⟩ hl.1 rfl (Nat.le_of_ble_eq_true rfl) dX9_gets_73 (fun H locs hR hS => ?_)
              refine lv_if_ne (tgt := 83) hx hb dX9_gets_76 (by decide) (fun c_155 => ?_) (fun c_155 => ?_)
              · rw [if_neg c_155] at h
                refine lv_iconst (v := 0) hx hb dX9_gets_83 (by decide) ?_
                cases h
                exact Kj121 _ _ _ hR hS (lv_sub hl [0, 1, 2, 3, 4, 5] rfl)
              · rw [if_pos c_155] at h
                exact Kj148  _ _ _ h hR hS (lv_sub hl [0, 1, 2, 3, 4, 5] rfl)
      clear h
      have h := hz
      clear hz
      refine lv_if_ne (tgt := 39) hx hb dX9_gets_32 (by decide) (fun c_156 => ?_) (fun c_156 => ?_)
      · rw [if_neg c_156] at h
        refine lv_iconst (v := 0) hx hb dX9_gets_39 (by decide) ?_
        cases h
        exact Kj113 _ _ _ hR hS (lv_sub hl [0, 1, 2, 3, 4, 5] rfl)
      · rw [if_pos c_156] at h
        refine lv_iconst (v := 1) hx hb dX9_gets_35 (by decide) ?_
        refine lv_goto (tgt := 40) hx hb dX9_gets_36 (by decide) ?_
        cases h
        exact Kj113 _ _ _ hR hS (lv_sub hl [0, 1, 2, 3, 4, 5] rfl)
  clear h
  have h := hz
  clear hz
  refine lv_if_ne (tgt := 18) hx hb dX9_gets_11 (by decide) (fun c_157 => ?_) (fun c_157 => ?_)
  · rw [if_neg c_157] at h
    refine lv_iconst (v := 0) hx hb dX9_gets_18 (by decide) ?_
    cases h
    exact Kj105 _ _ _ hR hS (lv_sub hl [0, 1, 2, 3, 4, 5] rfl)
  · rw [if_pos c_157] at h
    refine lv_iconst (v := 1) hx hb dX9_gets_14 (by decide) ?_
    refine lv_goto (tgt := 19) hx hb dX9_gets_15 (by decide) ?_
    cases h
    exact Kj105 _ _ _ hR hS (lv_sub hl [0, 1, 2, 3, 4, 5] rfl)
set_option maxHeartbeats 4000000 in
set_option maxRecDepth 100000 in
theorem vX9_seen {l : Launch} {E : EV} {a : Nat → Nat → Nat} {u0 : HS} {x1 : Int32} {x2 : Int32} {x3 : Int32} {out : (Int32 × HS)} (h : mX9_seen u0 x1 x2 x3 = some out) : Ct l E yX9_seen cX9_seen 4 (some .int) 10 251 0 0 a u0 [.ref (a 9 0), .int x1, .int x2, .int x3] (some (.int out.1)) out.2 := by
  refine Ct.start (by decide) (Nat.le_of_ble_eq_true rfl) ?_
  intro p e s m args below meth c ls C hr hR hS hl
  have C : Cx E p s m args meth c cX9_seen 4 RX9 := C
  have hl : lv_has ls 4 [(0, .ref (a 9 0)), (1, .int x1), (2, .int x2), (3, .int x3)] := hl
  have hx := C.1
  have hb := C.2.1
  unfold mX9_seen at h
  refine lv_aload_n hx hb dX9_seen_0 rfl (lv_at hl 0 rfl) ?_
  refine lv_iconst (v := 0) hx hb dX9_seen_1 (by decide) ?_
  refine r_putI (ty := .int) C hR hS 9 0 0 (lv0 (by decide) (by decide)) (by decide) (by decide) (fun _ => rfl) fl_X9_76 (by decide) (by decide +kernel) rfl rfl dX9_seen_2 (fun H locs hR hS => ?_)
  obtain ⟨u101, eu101⟩ : ∃ z : HS, z = wI u0 9 0 0 0 := ⟨_, rfl⟩
  rw [← eu101] at hR
  replace h := bd_x eu101 h
  clear eu101
  refine lv_aload_n hx hb dX9_seen_5 rfl (lv_at hl 0 rfl) ?_
  refine lv_aload_n hx hb dX9_seen_6 rfl (lv_at hl 0 rfl) ?_
  refine lv_iload_n hx hb dX9_seen_7 rfl (lv_at hl 1 rfl) ?_
  obtain ⟨x103, hc102, h⟩ := ob h
  refine r_callV1 (As := [.int x1]) (rest := [.ref (a 9 0)]) (r := 9) (i := 0) C (vX9_isLaw hc102) hR hS (lv0 (by decide) (by decide)) (by decide) ml_X9_357 mw_X9_isLaw rfl ⟨Nat.le_of_ble_eq_true rfl, Nat.le_of_ble_eq_true rfl, Nat.le_of_ble_eq_true rfl, Nat.le_of_ble_eq_true rfl⟩ hl.1 rfl (Nat.le_of_ble_eq_true rfl) dX9_seen_8 (fun H locs hR hS => ?_)
  obtain ⟨x104, hz, h⟩ := ob h
  have Kj105 : ∀ (H : Heap) (locs : List Loc) (ls : Array Slot), Rel E a u101 H → va_S (AE E) s.heap H locs → lv_has ls 4 [(0, .ref (a 9 0)), (1, .int x1), (2, .int x2), (3, .int x3)] → W p l e { frames := 10, cells := 0, slots := 0, locals := 251 } s m args below meth c H locs 0 0 (MQ below (QW E a (some (.int out.1)) out.2) args s 0 0 (AE E)) (F0 m 19 ls [.int x104, .ref (a 9 0)]) := by
    intro H locs ls hR hS hl
    clear hz
    refine lv_iconst (v := 1) hx hb dX9_seen_19 (by decide) ?_
    obtain ⟨⟨x107, u108⟩, hc106, h⟩ := ob h
    replace h := bd_x (x := x107) rfl h
    replace h := bd_x (x := u108) rfl h
    refine r_callV1 (As := [.int x104, .int 1]) (rest := []) (r := 9) (i := 0) C (vX9_bad hc106) hR hS (lv0 (by decide) (by decide)) (by decide) ml_X9_162 mw_X9_bad rfl ⟨Nat.le_of_ble_eq_true rfl, Nat.le_of_ble_eq_true rfl, Nat.le_of_ble_eq_true rfl, Nat.le_of_ble_eq_true rfl⟩ hl.1 rfl (Nat.le_of_ble_eq_true rfl) dX9_seen_20 (fun H locs hR hS => ?_)
    refine lv_if_ne (tgt := 69) hx hb dX9_seen_23 (by decide) (fun c_109 => ?_) (fun c_109 => ?_)
    · rw [if_neg c_109] at h
      refine lv_iconst (v := 0) hx hb dX9_seen_69 (by decide) ?_
      cases h
      exact e_iret C hr hR hS (Nat.le_of_ble_eq_true rfl) (Nat.le_of_ble_eq_true rfl) dX9_seen_70
    · rw [if_pos c_109] at h
      refine lv_aload_n hx hb dX9_seen_26 rfl (lv_at hl 0 rfl) ?_
      refine lv_aload_n hx hb dX9_seen_27 rfl (lv_at hl 0 rfl) ?_
      refine lv_iload_n hx hb dX9_seen_28 rfl (lv_at hl 2 rfl) ?_
      obtain ⟨x111, hc110, h⟩ := ob h
      refine r_callV1 (As := [.int x2]) (rest := [.ref (a 9 0)]) (r := 9) (i := 0) C (vX9_isLooker hc110) hR hS (lv0 (by decide) (by decide)) (by decide) ml_X9_295 mw_X9_isLooker rfl ⟨Nat.le_of_ble_eq_true rfl, Nat.le_of_ble_eq_true rfl, Nat.le_of_ble_eq_true rfl, Nat.le_of_ble_eq_true rfl⟩ hl.1 rfl (Nat.le_of_ble_eq_true rfl) dX9_seen_29 (fun H locs hR hS => ?_)
      obtain ⟨x112, hz, h⟩ := ob h
      have Kj113 : ∀ (H : Heap) (locs : List Loc) (ls : Array Slot), Rel E a u108 H → va_S (AE E) s.heap H locs → lv_has ls 4 [(0, .ref (a 9 0)), (1, .int x1), (2, .int x2), (3, .int x3)] → W p l e { frames := 10, cells := 0, slots := 0, locals := 251 } s m args below meth c H locs 0 0 (MQ below (QW E a (some (.int out.1)) out.2) args s 0 0 (AE E)) (F0 m 40 ls [.int x112, .ref (a 9 0)]) := by
        intro H locs ls hR hS hl
        clear hz
        refine lv_iconst (v := 2) hx hb dX9_seen_40 (by decide) ?_
        obtain ⟨⟨x115, u116⟩, hc114, h⟩ := ob h
        replace h := bd_x (x := x115) rfl h
        replace h := bd_x (x := u116) rfl h
        refine r_callV1 (As := [.int x112, .int 2]) (rest := []) (r := 9) (i := 0) C (vX9_bad hc114) hR hS (lv0 (by decide) (by decide)) (by decide) ml_X9_162 mw_X9_bad rfl ⟨Nat.le_of_ble_eq_true rfl, Nat.le_of_ble_eq_true rfl, Nat.le_of_ble_eq_true rfl, Nat.le_of_ble_eq_true rfl⟩ hl.1 rfl (Nat.le_of_ble_eq_true rfl) dX9_seen_41 (fun H locs hR hS => ?_)
        refine lv_if_ne (tgt := 69) hx hb dX9_seen_44 (by decide) (fun c_117 => ?_) (fun c_117 => ?_)
        · rw [if_neg c_117] at h
          refine lv_iconst (v := 0) hx hb dX9_seen_69 (by decide) ?_
          cases h
          exact e_iret C hr hR hS (Nat.le_of_ble_eq_true rfl) (Nat.le_of_ble_eq_true rfl) dX9_seen_70
        · rw [if_pos c_117] at h
          refine lv_aload_n hx hb dX9_seen_47 rfl (lv_at hl 0 rfl) ?_
          refine lv_aload_n hx hb dX9_seen_48 rfl (lv_at hl 0 rfl) ?_
          refine lv_iload_n hx hb dX9_seen_49 rfl (lv_at hl 2 rfl) ?_
          refine lv_iload_n hx hb dX9_seen_50 rfl (lv_at hl 3 rfl) ?_
          obtain ⟨x119, hc118, h⟩ := ob h
          refine r_callV1 (As := [.int x2, .int x3]) (rest := [.ref (a 9 0)]) (r := 9) (i := 0) C (vX9_isThing hc118) hR hS (lv0 (by decide) (by decide)) (by decide) ml_X9_326 mw_X9_isThing rfl ⟨Nat.le_of_ble_eq_true rfl, Nat.le_of_ble_eq_true rfl, Nat.le_of_ble_eq_true rfl, Nat.le_of_ble_eq_true rfl⟩ hl.1 rfl (Nat.le_of_ble_eq_true rfl) dX9_seen_51 (fun H locs hR hS => ?_)
          obtain ⟨x120, hz, h⟩ := ob h
          have Kj121 : ∀ (H : Heap) (locs : List Loc) (ls : Array Slot), Rel E a u116 H → va_S (AE E) s.heap H locs → lv_has ls 4 [(0, .ref (a 9 0)), (1, .int x1), (2, .int x2), (3, .int x3)] → W p l e { frames := 10, cells := 0, slots := 0, locals := 251 } s m args below meth c H locs 0 0 (MQ below (QW E a (some (.int out.1)) out.2) args s 0 0 (AE E)) (F0 m 62 ls [.int x120, .ref (a 9 0)]) := by
            intro H locs ls hR hS hl
            clear hz
            refine lv_iconst (v := 2) hx hb dX9_seen_62 (by decide) ?_
            obtain ⟨⟨x123, u124⟩, hc122, h⟩ := ob h
            replace h := bd_x (x := x123) rfl h
            replace h := bd_x (x := u124) rfl h
            refine r_callV1 (As := [.int x120, .int 2]) (rest := []) (r := 9) (i := 0) C (vX9_bad hc122) hR hS (lv0 (by decide) (by decide)) (by decide) ml_X9_162 mw_X9_bad rfl ⟨Nat.le_of_ble_eq_true rfl, Nat.le_of_ble_eq_true rfl, Nat.le_of_ble_eq_true rfl, Nat.le_of_ble_eq_true rfl⟩ hl.1 rfl (Nat.le_of_ble_eq_true rfl) dX9_seen_63 (fun H locs hR hS => ?_)
            refine lv_if_eq (tgt := 71) hx hb dX9_seen_66 (by decide) (fun c_125 => ?_) (fun c_125 => ?_)
            · rw [if_pos c_125] at h
              refine lv_aload_n hx hb dX9_seen_71 rfl (lv_at hl 0 rfl) ?_
              refine lv_iload_n hx hb dX9_seen_72 rfl (lv_at hl 1 rfl) ?_
              refine lv_iload_n hx hb dX9_seen_73 rfl (lv_at hl 2 rfl) ?_
              refine lv_iload_n hx hb dX9_seen_74 rfl (lv_at hl 3 rfl) ?_
              obtain ⟨⟨x127, u128⟩, hc126, h⟩ := ob h
              replace h := bd_x (x := x127) rfl h
              replace h := bd_x (x := u128) rfl h
              refine r_callV1 (As := [.int x1, .int x2, .int x3]) (rest := []) (r := 9) (i := 0) C (vX9_seenOf hc126) hR hS (lv0 (by decide) (by decide)) (by decide) ml_X9_360 mw_X9_seenOf rfl ⟨Nat.le_of_ble_eq_true rfl, Nat.le_of_ble_eq_true rfl, Nat.le_of_ble_eq_true rfl, Nat.le_of_ble_eq_true rfl⟩ hl.1 rfl (Nat.le_of_ble_eq_true rfl) dX9_seen_75 (fun H locs hR hS => ?_)
              cases h
              exact e_iret C hr hR hS (Nat.le_of_ble_eq_true rfl) (Nat.le_of_ble_eq_true rfl) dX9_seen_78
            · rw [if_neg c_125] at h
              refine lv_iconst (v := 0) hx hb dX9_seen_69 (by decide) ?_
              cases h
              exact e_iret C hr hR hS (Nat.le_of_ble_eq_true rfl) (Nat.le_of_ble_eq_true rfl) dX9_seen_70
          clear h
          have h := hz
          clear hz
          refine lv_if_ne (tgt := 61) hx hb dX9_seen_54 (by decide) (fun c_129 => ?_) (fun c_129 => ?_)
          · rw [if_neg c_129] at h
            refine lv_iconst (v := 0) hx hb dX9_seen_61 (by decide) ?_
            cases h
            exact Kj121 _ _ _ hR hS (lv_sub hl [0, 1, 2, 3] rfl)
          · rw [if_pos c_129] at h
            refine lv_iconst (v := 1) hx hb dX9_seen_57 (by decide) ?_
            refine lv_goto (tgt := 62) hx hb dX9_seen_58 (by decide) ?_
            cases h
            exact Kj121 _ _ _ hR hS (lv_sub hl [0, 1, 2, 3] rfl)
      clear h
      have h := hz
      clear hz
      refine lv_if_ne (tgt := 39) hx hb dX9_seen_32 (by decide) (fun c_130 => ?_) (fun c_130 => ?_)
      · rw [if_neg c_130] at h
        refine lv_iconst (v := 0) hx hb dX9_seen_39 (by decide) ?_
        cases h
        exact Kj113 _ _ _ hR hS (lv_sub hl [0, 1, 2, 3] rfl)
      · rw [if_pos c_130] at h
        refine lv_iconst (v := 1) hx hb dX9_seen_35 (by decide) ?_
        refine lv_goto (tgt := 40) hx hb dX9_seen_36 (by decide) ?_
        cases h
        exact Kj113 _ _ _ hR hS (lv_sub hl [0, 1, 2, 3] rfl)
  clear h
  have h := hz
  clear hz
  refine lv_if_ne (tgt := 18) hx hb dX9_seen_11 (by decide) (fun c_131 => ?_) (fun c_131 => ?_)
  · rw [if_neg c_131] at h
    refine lv_iconst (v := 0) hx hb dX9_seen_18 (by decide) ?_
    cases h
    exact Kj105 _ _ _ hR hS (lv_sub hl [0, 1, 2, 3] rfl)
  · rw [if_pos c_131] at h
    refine lv_iconst (v := 1) hx hb dX9_seen_14 (by decide) ?_
    refine lv_goto (tgt := 19) hx hb dX9_seen_15 (by decide) ?_
    cases h
    exact Kj105 _ _ _ hR hS (lv_sub hl [0, 1, 2, 3] rfl)
set_option maxHeartbeats 4000000 in
set_option maxRecDepth 100000 in
theorem vX9_isForgotten {l : Launch} {E : EV} {a : Nat → Nat → Nat} {u0 : HS} {x1 : Int32} {x2 : Int32} {out : (Int32 × HS)} (h : mX9_isForgotten u0 x1 x2 = some out) : Ct l E yX9_isForgotten cX9_isForgotten 4 (some .boolean) 7 174 0 0 a u0 [.ref (a 9 0), .int x1, .int x2] (some (.int out.1)) out.2 := by
  refine Ct.start (by decide) (Nat.le_of_ble_eq_true rfl) ?_
  intro p e s m args below meth c ls C hr hR hS hl
  have C : Cx E p s m args meth c cX9_isForgotten 4 RX9 := C
  have hl : lv_has ls 4 [(0, .ref (a 9 0)), (1, .int x1), (2, .int x2)] := hl
  have hx := C.1
  have hb := C.2.1
  unfold mX9_isForgotten at h
  refine lv_aload_n hx hb dX9_isForgotten_0 rfl (lv_at hl 0 rfl) ?_
  refine lv_aload_n hx hb dX9_isForgotten_1 rfl (lv_at hl 0 rfl) ?_
  refine r_get C hR 9 0 33 (v := .ref (a 80 0)) (lv0 (by decide) (by decide)) (by decide) (by decide) rfl fl_X9_61 dX9_isForgotten_2 ?_
  refine lv_iload_n hx hb dX9_isForgotten_5 rfl (lv_at hl 2 rfl) ?_
  obtain ⟨k101, hk101, h⟩ := ob h
  have hLk101 : k101 < cntS 81 := by have q1 := (ck_in hk101).2.2; have q2 : cntS 81 = 15 := rfl; omega
  refine r_aald C hR 80 0 81 0 6 (lv0 (by decide) (by decide)) (by decide) rfl rfl rfl (fun _ => rfl) rfl hk101 dX9_isForgotten_6 ?_
  refine lv_iconst (v := 0) hx hb dX9_isForgotten_7 (by decide) ?_
  obtain ⟨k102, hk102, h⟩ := ob h
  refine r_ald C hR 81 k101 (lv0 hLk101 (by decide)) (by decide) rfl (fun _ => rfl) rfl hk102 dX9_isForgotten_8 ?_
  obtain ⟨x104, hc103, h⟩ := ob h
  refine r_callV1 (As := [.int (gI u0 81 k101 k102)]) (rest := []) (r := 9) (i := 0) C (vX9_endOf hc103) hR hS (lv0 (by decide) (by decide)) (by decide) ml_X9_260 mw_X9_endOf rfl ⟨Nat.le_of_ble_eq_true rfl, Nat.le_of_ble_eq_true rfl, Nat.le_of_ble_eq_true rfl, Nat.le_of_ble_eq_true rfl⟩ hl.1 rfl (Nat.le_of_ble_eq_true rfl) dX9_isForgotten_9 (fun H locs hR hS => ?_)
  refine lv_istore_n (lv' := [(3, .int x104), (0, .ref (a 9 0)), (1, .int x1), (2, .int x2)]) hx hb dX9_isForgotten_12 rfl hl (by decide) rfl (fun ls hl => ?_)
  refine lv_aload_n hx hb dX9_isForgotten_13 rfl (lv_at hl 1 rfl) ?_
  refine lv_iload_n hx hb dX9_isForgotten_14 rfl (lv_at hl 3 rfl) ?_
  refine lv_aload_n hx hb dX9_isForgotten_15 rfl (lv_at hl 1 rfl) ?_
  refine lv_aload_n hx hb dX9_isForgotten_16 rfl (lv_at hl 1 rfl) ?_
  refine r_get C hR 9 0 33 (v := .ref (a 80 0)) (lv0 (by decide) (by decide)) (by decide) (by decide) rfl fl_X9_61 dX9_isForgotten_17 ?_
  refine lv_iload_n hx hb dX9_isForgotten_20 rfl (lv_at hl 3 rfl) ?_
  obtain ⟨k105, hk105, h⟩ := ob h
  have hLk105 : k105 < cntS 81 := by have q1 := (ck_in hk105).2.2; have q2 : cntS 81 = 15 := rfl; omega
  refine r_aald C hR 80 0 81 0 6 (lv0 (by decide) (by decide)) (by decide) rfl rfl rfl (fun _ => rfl) rfl hk105 dX9_isForgotten_21 ?_
  refine lv_iconst (v := 0) hx hb dX9_isForgotten_22 (by decide) ?_
  obtain ⟨k106, hk106, h⟩ := ob h
  refine r_ald C hR 81 k105 (lv0 hLk105 (by decide)) (by decide) rfl (fun _ => rfl) rfl hk106 dX9_isForgotten_23 ?_
  obtain ⟨x108, hc107, h⟩ := ob h
  refine r_callV1 (As := [.int (gI u0 81 k105 k106)]) (rest := [.int x2, .ref (a 9 0)]) (r := 9) (i := 0) C (vX9_oddOf hc107) hR hS (lv0 (by decide) (by decide)) (by decide) ml_X9_263 mw_X9_oddOf rfl ⟨Nat.le_of_ble_eq_true rfl, Nat.le_of_ble_eq_true rfl, Nat.le_of_ble_eq_true rfl, Nat.le_of_ble_eq_true rfl⟩ hl.1 rfl (Nat.le_of_ble_eq_true rfl) dX9_isForgotten_24 (fun H locs hR hS => ?_)
  refine lv_iload_n hx hb dX9_isForgotten_27 rfl (lv_at hl 0 rfl) ?_
  obtain ⟨u110, hc109, h⟩ := ob h
  refine r_callV0 (As := [.int x2, .int x108, .int x104]) (rest := []) (r := 9) (i := 0) C (vX9_tellsNames hc109) hR hS (lv0 (by decide) (by decide)) (by decide) ml_X9_329 mw_X9_tellsNames rfl ⟨Nat.le_of_ble_eq_true rfl, Nat.le_of_ble_eq_true rfl, Nat.le_of_ble_eq_true rfl, Nat.le_of_ble_eq_true rfl⟩ hl.1 rfl (Nat.le_of_ble_eq_true rfl) dX9_isForgotten_28 (fun H locs hR hS => ?_)
  refine lv_iload_n hx hb dX9_isForgotten_31 rfl (lv_at hl 0 rfl) ?_
  refine lv_aload_n hx hb dX9_isForgotten_32 rfl (lv_at hl 1 rfl) ?_
  refine r_get C hR 9 0 41 (v := .int (gI u110 9 0 41)) (lv0 (by decide) (by decide)) (by decide) (by decide) rfl fl_X9_340 dX9_isForgotten_33 ?_
  refine lv_isub hx hb dX9_isForgotten_36 ?_
  refine lv_aload_n hx hb dX9_isForgotten_37 rfl (lv_at hl 1 rfl) ?_
  refine lv_iload_n hx hb dX9_isForgotten_38 rfl (lv_at hl 2 rfl) ?_
  refine lv_iconst (v := 2) hx hb dX9_isForgotten_39 (by decide) ?_
  refine lv_iconst (v := 0) hx hb dX9_isForgotten_40 (by decide) ?_
  refine lv_sipush (v := 999) hx hb dX9_isForgotten_41 (by decide) ?_
  refine lv_sipush (v := 999) hx hb dX9_isForgotten_44 (by decide) ?_
  obtain ⟨⟨x112, u113⟩, hc111, h⟩ := ob h
  replace h := bd_x (x := x112) rfl h
  replace h := bd_x (x := u113) rfl h
  refine r_callV1 (As := [.int x1, .int 2, .int 0, .int 999, .int 999]) (rest := [.int (x104 - (gI u110 9 0 41))]) (r := 9) (i := 0) C (vX9_lastOf hc111) hR hS (lv0 (by decide) (by decide)) (by decide) ml_X9_336 mw_X9_lastOf rfl ⟨Nat.le_of_ble_eq_true rfl, Nat.le_of_ble_eq_true rfl, Nat.le_of_ble_eq_true rfl, Nat.le_of_ble_eq_true rfl⟩ hl.1 rfl (Nat.le_of_ble_eq_true rfl) dX9_isForgotten_47 (fun H locs hR hS => ?_)
  refine lv_icmp_le (tgt := 57) hx hb dX9_isForgotten_50 (by decide) (fun c_114 => ?_) (fun c_114 => ?_)
  · rw [if_pos c_114] at h
    refine lv_iconst (v := 0) hx hb dX9_isForgotten_57 (by decide) ?_
    cases h
    exact e_zret (v := 0) C hr rfl hR hS (Nat.le_of_ble_eq_true rfl) (Nat.le_of_ble_eq_true rfl) dX9_isForgotten_58
  · rw [if_neg c_114] at h
    refine lv_iconst (v := 1) hx hb dX9_isForgotten_53 (by decide) ?_
    refine lv_goto (tgt := 58) hx hb dX9_isForgotten_54 (by decide) ?_
    cases h
    exact e_zret (v := 1) C hr rfl hR hS (Nat.le_of_ble_eq_true rfl) (Nat.le_of_ble_eq_true rfl) dX9_isForgotten_58
set_option maxHeartbeats 4000000 in
set_option maxRecDepth 100000 in
theorem vX9_isUnsure {l : Launch} {E : EV} {a : Nat → Nat → Nat} {u0 : HS} {x1 : Int32} {x2 : Int32} {out : (Int32 × HS)} (h : mX9_isUnsure u0 x1 x2 = some out) : Ct l E yX9_isUnsure cX9_isUnsure 3 (some .boolean) 7 174 0 0 a u0 [.ref (a 9 0), .int x1, .int x2] (some (.int out.1)) out.2 := by
  refine Ct.start (by decide) (Nat.le_of_ble_eq_true rfl) ?_
  intro p e s m args below meth c ls C hr hR hS hl
  have C : Cx E p s m args meth c cX9_isUnsure 3 RX9 := C
  have hl : lv_has ls 3 [(0, .ref (a 9 0)), (1, .int x1), (2, .int x2)] := hl
  have hx := C.1
  have hb := C.2.1
  unfold mX9_isUnsure at h
  refine lv_aload_n hx hb dX9_isUnsure_0 rfl (lv_at hl 0 rfl) ?_
  refine lv_iload_n hx hb dX9_isUnsure_1 rfl (lv_at hl 2 rfl) ?_
  refine lv_aload_n hx hb dX9_isUnsure_2 rfl (lv_at hl 0 rfl) ?_
  refine lv_aload_n hx hb dX9_isUnsure_3 rfl (lv_at hl 0 rfl) ?_
  refine r_get C hR 9 0 33 (v := .ref (a 80 0)) (lv0 (by decide) (by decide)) (by decide) (by decide) rfl fl_X9_61 dX9_isUnsure_4 ?_
  refine lv_iload_n hx hb dX9_isUnsure_7 rfl (lv_at hl 2 rfl) ?_
  obtain ⟨k101, hk101, h⟩ := ob h
  have hLk101 : k101 < cntS 81 := by have q1 := (ck_in hk101).2.2; have q2 : cntS 81 = 15 := rfl; omega
  refine r_aald C hR 80 0 81 0 6 (lv0 (by decide) (by decide)) (by decide) rfl rfl rfl (fun _ => rfl) rfl hk101 dX9_isUnsure_8 ?_
  refine lv_iconst (v := 0) hx hb dX9_isUnsure_9 (by decide) ?_
  obtain ⟨k102, hk102, h⟩ := ob h
  refine r_ald C hR 81 k101 (lv0 hLk101 (by decide)) (by decide) rfl (fun _ => rfl) rfl hk102 dX9_isUnsure_10 ?_
  obtain ⟨x104, hc103, h⟩ := ob h
  refine r_callV1 (As := [.int (gI u0 81 k101 k102)]) (rest := [.int x2, .ref (a 9 0)]) (r := 9) (i := 0) C (vX9_oddOf hc103) hR hS (lv0 (by decide) (by decide)) (by decide) ml_X9_263 mw_X9_oddOf rfl ⟨Nat.le_of_ble_eq_true rfl, Nat.le_of_ble_eq_true rfl, Nat.le_of_ble_eq_true rfl, Nat.le_of_ble_eq_true rfl⟩ hl.1 rfl (Nat.le_of_ble_eq_true rfl) dX9_isUnsure_11 (fun H locs hR hS => ?_)
  refine lv_aload_n hx hb dX9_isUnsure_14 rfl (lv_at hl 0 rfl) ?_
  refine lv_aload_n hx hb dX9_isUnsure_15 rfl (lv_at hl 0 rfl) ?_
  refine r_get C hR 9 0 33 (v := .ref (a 80 0)) (lv0 (by decide) (by decide)) (by decide) (by decide) rfl fl_X9_61 dX9_isUnsure_16 ?_
  refine lv_iload_n hx hb dX9_isUnsure_19 rfl (lv_at hl 2 rfl) ?_
  obtain ⟨k105, hk105, h⟩ := ob h
  have hLk105 : k105 < cntS 81 := by have q1 := (ck_in hk105).2.2; have q2 : cntS 81 = 15 := rfl; omega
  refine r_aald C hR 80 0 81 0 6 (lv0 (by decide) (by decide)) (by decide) rfl rfl rfl (fun _ => rfl) rfl hk105 dX9_isUnsure_20 ?_
  refine lv_iconst (v := 0) hx hb dX9_isUnsure_21 (by decide) ?_
  obtain ⟨k106, hk106, h⟩ := ob h
  refine r_ald C hR 81 k105 (lv0 hLk105 (by decide)) (by decide) rfl (fun _ => rfl) rfl hk106 dX9_isUnsure_22 ?_
  obtain ⟨x108, hc107, h⟩ := ob h
  refine r_callV1 (As := [.int (gI u0 81 k105 k106)]) (rest := [.int x104, .int x2, .ref (a 9 0)]) (r := 9) (i := 0) C (vX9_endOf hc107) hR hS (lv0 (by decide) (by decide)) (by decide) ml_X9_260 mw_X9_endOf rfl ⟨Nat.le_of_ble_eq_true rfl, Nat.le_of_ble_eq_true rfl, Nat.le_of_ble_eq_true rfl, Nat.le_of_ble_eq_true rfl⟩ hl.1 rfl (Nat.le_of_ble_eq_true rfl) dX9_isUnsure_23 (fun H locs hR hS => ?_)
  obtain ⟨u110, hc109, h⟩ := ob h
  refine r_callV0 (As := [.int x2, .int x104, .int x108]) (rest := []) (r := 9) (i := 0) C (vX9_tellsNames hc109) hR hS (lv0 (by decide) (by decide)) (by decide) ml_X9_329 mw_X9_tellsNames rfl ⟨Nat.le_of_ble_eq_true rfl, Nat.le_of_ble_eq_true rfl, Nat.le_of_ble_eq_true rfl, Nat.le_of_ble_eq_true rfl⟩ hl.1 rfl (Nat.le_of_ble_eq_true rfl) dX9_isUnsure_26 (fun H locs hR hS => ?_)
  refine lv_aload_n hx hb dX9_isUnsure_29 rfl (lv_at hl 0 rfl) ?_
  refine r_get C hR 9 0 42 (v := .int (gI u110 9 0 42)) (lv0 (by decide) (by decide)) (by decide) (by decide) rfl fl_X9_343 dX9_isUnsure_30 ?_
  refine lv_aload_n hx hb dX9_isUnsure_33 rfl (lv_at hl 0 rfl) ?_
  refine lv_iload_n hx hb dX9_isUnsure_34 rfl (lv_at hl 1 rfl) ?_
  refine lv_iconst (v := 3) hx hb dX9_isUnsure_35 (by decide) ?_
  refine lv_iconst (v := 0) hx hb dX9_isUnsure_36 (by decide) ?_
  refine lv_ldc (own := RX9) (v := 100000) hx hb C.2.2.2.1 (C.2.2.2.2.1 _ cst_X9_112) dX9_isUnsure_37 ?_
  refine lv_iconst (v := 0) hx hb dX9_isUnsure_39 (by decide) ?_
  obtain ⟨⟨x112, u113⟩, hc111, h⟩ := ob h
  replace h := bd_x (x := x112) rfl h
  replace h := bd_x (x := u113) rfl h
  refine r_callV1 (As := [.int x1, .int 3, .int 0, .int 100000, .int 0]) (rest := [.int (gI u110 9 0 42)]) (r := 9) (i := 0) C (vX9_lastOf hc111) hR hS (lv0 (by decide) (by decide)) (by decide) ml_X9_336 mw_X9_lastOf rfl ⟨Nat.le_of_ble_eq_true rfl, Nat.le_of_ble_eq_true rfl, Nat.le_of_ble_eq_true rfl, Nat.le_of_ble_eq_true rfl⟩ hl.1 rfl (Nat.le_of_ble_eq_true rfl) dX9_isUnsure_40 (fun H locs hR hS => ?_)
  refine lv_icmp_ge (tgt := 50) hx hb dX9_isUnsure_43 (by decide) (fun c_114 => ?_) (fun c_114 => ?_)
  · rw [if_pos c_114] at h
    refine lv_iconst (v := 0) hx hb dX9_isUnsure_50 (by decide) ?_
    cases h
    exact e_zret (v := 0) C hr rfl hR hS (Nat.le_of_ble_eq_true rfl) (Nat.le_of_ble_eq_true rfl) dX9_isUnsure_51
  · rw [if_neg c_114] at h
    refine lv_iconst (v := 1) hx hb dX9_isUnsure_46 (by decide) ?_
    refine lv_goto (tgt := 51) hx hb dX9_isUnsure_47 (by decide) ?_
    cases h
    exact e_zret (v := 1) C hr rfl hR hS (Nat.le_of_ble_eq_true rfl) (Nat.le_of_ble_eq_true rfl) dX9_isUnsure_51
set_option maxHeartbeats 4000000 in
set_option maxRecDepth 100000 in
theorem vX9_saysBy {l : Launch} {E : EV} {a : Nat → Nat → Nat} {u0 : HS} {x1 : Int32} {x2 : Int32} {x3 : Int32} {out : (Int32 × HS)} (h : mX9_saysBy u0 x1 x2 x3 = some out) : Ct l E yX9_saysBy cX9_saysBy 5 (some .boolean) 10 251 0 0 a u0 [.ref (a 9 0), .int x1, .int x2, .int x3] (some (.int out.1)) out.2 := by
  refine Ct.start (by decide) (Nat.le_of_ble_eq_true rfl) ?_
  intro p e s m args below meth c ls C hr hR hS hl
  have C : Cx E p s m args meth c cX9_saysBy 5 RX9 := C
  have hl : lv_has ls 5 [(0, .ref (a 9 0)), (1, .int x1), (2, .int x2), (3, .int x3)] := hl
  have hx := C.1
  have hb := C.2.1
  unfold mX9_saysBy at h
  refine lv_aload_n hx hb dX9_saysBy_0 rfl (lv_at hl 0 rfl) ?_
  refine lv_aload_n hx hb dX9_saysBy_1 rfl (lv_at hl 0 rfl) ?_
  refine r_get C hR 9 0 33 (v := .ref (a 80 0)) (lv0 (by decide) (by decide)) (by decide) (by decide) rfl fl_X9_61 dX9_saysBy_2 ?_
  refine lv_iload_n hx hb dX9_saysBy_5 rfl (lv_at hl 2 rfl) ?_
  obtain ⟨k101, hk101, h⟩ := ob h
  have hLk101 : k101 < cntS 81 := by have q1 := (ck_in hk101).2.2; have q2 : cntS 81 = 15 := rfl; omega
  refine r_aald C hR 80 0 81 0 6 (lv0 (by decide) (by decide)) (by decide) rfl rfl rfl (fun _ => rfl) rfl hk101 dX9_saysBy_6 ?_
  refine lv_iconst (v := 0) hx hb dX9_saysBy_7 (by decide) ?_
  obtain ⟨k102, hk102, h⟩ := ob h
  refine r_ald C hR 81 k101 (lv0 hLk101 (by decide)) (by decide) rfl (fun _ => rfl) rfl hk102 dX9_saysBy_8 ?_
  obtain ⟨x104, hc103, h⟩ := ob h
  refine r_callV1 (As := [.int (gI u0 81 k101 k102)]) (rest := []) (r := 9) (i := 0) C (vX9_oddOf hc103) hR hS (lv0 (by decide) (by decide)) (by decide) ml_X9_263 mw_X9_oddOf rfl ⟨Nat.le_of_ble_eq_true rfl, Nat.le_of_ble_eq_true rfl, Nat.le_of_ble_eq_true rfl, Nat.le_of_ble_eq_true rfl⟩ hl.1 rfl (Nat.le_of_ble_eq_true rfl) dX9_saysBy_9 (fun H locs hR hS => ?_)
  refine lv_istore (lv' := [(4, .int x104), (0, .ref (a 9 0)), (1, .int x1), (2, .int x2), (3, .int x3)]) hx hb dX9_saysBy_12 hl (by decide) rfl (fun ls hl => ?_)
  refine lv_iload hx hb dX9_saysBy_14 (lv_at hl 0 rfl) ?_
  refine lv_iconst (v := (-1)) hx hb dX9_saysBy_16 (by decide) ?_
  refine lv_icmp_eq (tgt := 32) hx hb dX9_saysBy_17 (by decide) (fun c_105 => ?_) (fun c_105 => ?_)
  · rw [if_pos c_105] at h
    refine lv_iconst (v := 0) hx hb dX9_saysBy_32 (by decide) ?_
    cases h
    exact e_zret (v := 0) C hr rfl hR hS (Nat.le_of_ble_eq_true rfl) (Nat.le_of_ble_eq_true rfl) dX9_saysBy_33
  · rw [if_neg c_105] at h
    refine lv_aload_n hx hb dX9_saysBy_20 rfl (lv_at hl 1 rfl) ?_
    refine lv_iload_n hx hb dX9_saysBy_21 rfl (lv_at hl 2 rfl) ?_
    refine lv_iload_n hx hb dX9_saysBy_22 rfl (lv_at hl 3 rfl) ?_
    refine lv_iload hx hb dX9_saysBy_23 (lv_at hl 0 rfl) ?_
    obtain ⟨⟨x107, u108⟩, hc106, h⟩ := ob h
    replace h := bd_x (x := x107) rfl h
    replace h := bd_x (x := u108) rfl h
    refine r_callV1 (As := [.int x1, .int x2, .int x104]) (rest := []) (r := 9) (i := 0) C (vX9_seenOf hc106) hR hS (lv0 (by decide) (by decide)) (by decide) ml_X9_360 mw_X9_seenOf rfl ⟨Nat.le_of_ble_eq_true rfl, Nat.le_of_ble_eq_true rfl, Nat.le_of_ble_eq_true rfl, Nat.le_of_ble_eq_true rfl⟩ hl.1 rfl (Nat.le_of_ble_eq_true rfl) dX9_saysBy_25 (fun H locs hR hS => ?_)
    refine lv_iconst (v := (-1)) hx hb dX9_saysBy_28 (by decide) ?_
    refine lv_icmp_ne (tgt := 34) hx hb dX9_saysBy_29 (by decide) (fun c_109 => ?_) (fun c_109 => ?_)
    · rw [if_neg c_109] at h
      refine lv_iload_n hx hb dX9_saysBy_34 rfl (lv_at hl 4 rfl) ?_
      refine lv_iconst (v := 2) hx hb dX9_saysBy_35 (by decide) ?_
      refine lv_icmp_eq (tgt := 62) hx hb dX9_saysBy_36 (by decide) (fun c_110 => ?_) (fun c_110 => ?_)
      · rw [if_pos c_110] at h
        refine lv_iconst (v := 1) hx hb dX9_saysBy_62 (by decide) ?_
        refine lv_goto (tgt := 67) hx hb dX9_saysBy_63 (by decide) ?_
        cases h
        exact e_zret (v := 1) C hr rfl hR hS (Nat.le_of_ble_eq_true rfl) (Nat.le_of_ble_eq_true rfl) dX9_saysBy_67
      · rw [if_neg c_110] at h
        refine lv_aload_n hx hb dX9_saysBy_39 rfl (lv_at hl 1 rfl) ?_
        refine lv_iload_n hx hb dX9_saysBy_40 rfl (lv_at hl 2 rfl) ?_
        refine lv_iload_n hx hb dX9_saysBy_41 rfl (lv_at hl 3 rfl) ?_
        obtain ⟨⟨x112, u113⟩, hc111, h⟩ := ob h
        replace h := bd_x (x := x112) rfl h
        replace h := bd_x (x := u113) rfl h
        refine r_callV1 (As := [.int x1, .int x2]) (rest := []) (r := 9) (i := 0) C (vX9_isUnsure hc111) hR hS (lv0 (by decide) (by decide)) (by decide) ml_X9_363 mw_X9_isUnsure rfl ⟨Nat.le_of_ble_eq_true rfl, Nat.le_of_ble_eq_true rfl, Nat.le_of_ble_eq_true rfl, Nat.le_of_ble_eq_true rfl⟩ hl.1 rfl (Nat.le_of_ble_eq_true rfl) dX9_saysBy_42 (fun H locs hR hS => ?_)
        refine lv_if_ne (tgt := 66) hx hb dX9_saysBy_45 (by decide) (fun c_114 => ?_) (fun c_114 => ?_)
        · rw [if_neg c_114] at h
          refine lv_iconst (v := 0) hx hb dX9_saysBy_66 (by decide) ?_
          cases h
          exact e_zret (v := 0) C hr rfl hR hS (Nat.le_of_ble_eq_true rfl) (Nat.le_of_ble_eq_true rfl) dX9_saysBy_67
        · rw [if_pos c_114] at h
          refine lv_iload_n hx hb dX9_saysBy_48 rfl (lv_at hl 4 rfl) ?_
          refine lv_iconst (v := 1) hx hb dX9_saysBy_49 (by decide) ?_
          refine lv_icmp_eq (tgt := 62) hx hb dX9_saysBy_50 (by decide) (fun c_115 => ?_) (fun c_115 => ?_)
          · rw [if_pos c_115] at h
            refine lv_iconst (v := 1) hx hb dX9_saysBy_62 (by decide) ?_
            refine lv_goto (tgt := 67) hx hb dX9_saysBy_63 (by decide) ?_
            cases h
            exact e_zret (v := 1) C hr rfl hR hS (Nat.le_of_ble_eq_true rfl) (Nat.le_of_ble_eq_true rfl) dX9_saysBy_67
          · rw [if_neg c_115] at h
            refine lv_aload_n hx hb dX9_saysBy_53 rfl (lv_at hl 1 rfl) ?_
            refine lv_iload_n hx hb dX9_saysBy_54 rfl (lv_at hl 2 rfl) ?_
            refine lv_iload_n hx hb dX9_saysBy_55 rfl (lv_at hl 3 rfl) ?_
            obtain ⟨⟨x117, u118⟩, hc116, h⟩ := ob h
            replace h := bd_x (x := x117) rfl h
            replace h := bd_x (x := u118) rfl h
            refine r_callV1 (As := [.int x1, .int x2]) (rest := []) (r := 9) (i := 0) C (vX9_isForgotten hc116) hR hS (lv0 (by decide) (by decide)) (by decide) ml_X9_366 mw_X9_isForgotten rfl ⟨Nat.le_of_ble_eq_true rfl, Nat.le_of_ble_eq_true rfl, Nat.le_of_ble_eq_true rfl, Nat.le_of_ble_eq_true rfl⟩ hl.1 rfl (Nat.le_of_ble_eq_true rfl) dX9_saysBy_56 (fun H locs hR hS => ?_)
            refine lv_if_ne (tgt := 66) hx hb dX9_saysBy_59 (by decide) (fun c_119 => ?_) (fun c_119 => ?_)
            · rw [if_neg c_119] at h
              refine lv_iconst (v := 0) hx hb dX9_saysBy_66 (by decide) ?_
              cases h
              exact e_zret (v := 0) C hr rfl hR hS (Nat.le_of_ble_eq_true rfl) (Nat.le_of_ble_eq_true rfl) dX9_saysBy_67
            · rw [if_pos c_119] at h
              refine lv_iconst (v := 1) hx hb dX9_saysBy_62 (by decide) ?_
              refine lv_goto (tgt := 67) hx hb dX9_saysBy_63 (by decide) ?_
              cases h
              exact e_zret (v := 1) C hr rfl hR hS (Nat.le_of_ble_eq_true rfl) (Nat.le_of_ble_eq_true rfl) dX9_saysBy_67
    · rw [if_pos c_109] at h
      refine lv_iconst (v := 0) hx hb dX9_saysBy_32 (by decide) ?_
      cases h
      exact e_zret (v := 0) C hr rfl hR hS (Nat.le_of_ble_eq_true rfl) (Nat.le_of_ble_eq_true rfl) dX9_saysBy_33
set_option maxHeartbeats 4000000 in
set_option maxRecDepth 100000 in
theorem vX9_says {l : Launch} {E : EV} {a : Nat → Nat → Nat} {u0 : HS} {x1 : Int32} {x2 : Int32} {x3 : Int32} {out : (Int32 × HS)} (h : mX9_says u0 x1 x2 x3 = some out) : Ct l E yX9_says cX9_says 4 (some .boolean) 11 275 0 0 a u0 [.ref (a 9 0), .int x1, .int x2, .int x3] (some (.int out.1)) out.2 := by
  refine Ct.start (by decide) (Nat.le_of_ble_eq_true rfl) ?_
  intro p e s m args below meth c ls C hr hR hS hl
  have C : Cx E p s m args meth c cX9_says 4 RX9 := C
  have hl : lv_has ls 4 [(0, .ref (a 9 0)), (1, .int x1), (2, .int x2), (3, .int x3)] := hl
  have hx := C.1
  have hb := C.2.1
  unfold mX9_says at h
  refine lv_aload_n hx hb dX9_says_0 rfl (lv_at hl 0 rfl) ?_
  refine lv_iconst (v := 0) hx hb dX9_says_1 (by decide) ?_
  refine r_putI (ty := .int) C hR hS 9 0 0 (lv0 (by decide) (by decide)) (by decide) (by decide) (fun _ => rfl) fl_X9_76 (by decide) (by decide +kernel) rfl rfl dX9_says_2 (fun H locs hR hS => ?_)
  obtain ⟨u101, eu101⟩ : ∃ z : HS, z = wI u0 9 0 0 0 := ⟨_, rfl⟩
  rw [← eu101] at hR
  replace h := bd_x eu101 h
  clear eu101
  refine lv_aload_n hx hb dX9_says_5 rfl (lv_at hl 0 rfl) ?_
  refine lv_aload_n hx hb dX9_says_6 rfl (lv_at hl 0 rfl) ?_
  refine lv_iload_n hx hb dX9_says_7 rfl (lv_at hl 1 rfl) ?_
  obtain ⟨x103, hc102, h⟩ := ob h
  refine r_callV1 (As := [.int x1]) (rest := [.ref (a 9 0)]) (r := 9) (i := 0) C (vX9_isLaw hc102) hR hS (lv0 (by decide) (by decide)) (by decide) ml_X9_357 mw_X9_isLaw rfl ⟨Nat.le_of_ble_eq_true rfl, Nat.le_of_ble_eq_true rfl, Nat.le_of_ble_eq_true rfl, Nat.le_of_ble_eq_true rfl⟩ hl.1 rfl (Nat.le_of_ble_eq_true rfl) dX9_says_8 (fun H locs hR hS => ?_)
  obtain ⟨x104, hz, h⟩ := ob h
  have Kj105 : ∀ (H : Heap) (locs : List Loc) (ls : Array Slot), Rel E a u101 H → va_S (AE E) s.heap H locs → lv_has ls 4 [(0, .ref (a 9 0)), (1, .int x1), (2, .int x2), (3, .int x3)] → W p l e { frames := 11, cells := 0, slots := 0, locals := 275 } s m args below meth c H locs 0 0 (MQ below (QW E a (some (.int out.1)) out.2) args s 0 0 (AE E)) (F0 m 19 ls [.int x104, .ref (a 9 0)]) := by
    intro H locs ls hR hS hl
    clear hz
    refine lv_iconst (v := 1) hx hb dX9_says_19 (by decide) ?_
    obtain ⟨⟨x107, u108⟩, hc106, h⟩ := ob h
    replace h := bd_x (x := x107) rfl h
    replace h := bd_x (x := u108) rfl h
    refine r_callV1 (As := [.int x104, .int 1]) (rest := []) (r := 9) (i := 0) C (vX9_bad hc106) hR hS (lv0 (by decide) (by decide)) (by decide) ml_X9_162 mw_X9_bad rfl ⟨Nat.le_of_ble_eq_true rfl, Nat.le_of_ble_eq_true rfl, Nat.le_of_ble_eq_true rfl, Nat.le_of_ble_eq_true rfl⟩ hl.1 rfl (Nat.le_of_ble_eq_true rfl) dX9_says_20 (fun H locs hR hS => ?_)
    refine lv_if_ne (tgt := 56) hx hb dX9_says_23 (by decide) (fun c_109 => ?_) (fun c_109 => ?_)
    · rw [if_neg c_109] at h
      refine lv_iconst (v := 0) hx hb dX9_says_56 (by decide) ?_
      cases h
      exact e_zret (v := 0) C hr rfl hR hS (Nat.le_of_ble_eq_true rfl) (Nat.le_of_ble_eq_true rfl) dX9_says_57
    · rw [if_pos c_109] at h
      refine lv_aload_n hx hb dX9_says_26 rfl (lv_at hl 0 rfl) ?_
      refine lv_aload_n hx hb dX9_says_27 rfl (lv_at hl 0 rfl) ?_
      refine lv_iload_n hx hb dX9_says_28 rfl (lv_at hl 2 rfl) ?_
      obtain ⟨x111, hc110, h⟩ := ob h
      refine r_callV1 (As := [.int x2]) (rest := [.ref (a 9 0)]) (r := 9) (i := 0) C (vX9_isLooker hc110) hR hS (lv0 (by decide) (by decide)) (by decide) ml_X9_295 mw_X9_isLooker rfl ⟨Nat.le_of_ble_eq_true rfl, Nat.le_of_ble_eq_true rfl, Nat.le_of_ble_eq_true rfl, Nat.le_of_ble_eq_true rfl⟩ hl.1 rfl (Nat.le_of_ble_eq_true rfl) dX9_says_29 (fun H locs hR hS => ?_)
      obtain ⟨x112, hz, h⟩ := ob h
      have Kj113 : ∀ (H : Heap) (locs : List Loc) (ls : Array Slot), Rel E a u108 H → va_S (AE E) s.heap H locs → lv_has ls 4 [(0, .ref (a 9 0)), (1, .int x1), (2, .int x2), (3, .int x3)] → W p l e { frames := 11, cells := 0, slots := 0, locals := 275 } s m args below meth c H locs 0 0 (MQ below (QW E a (some (.int out.1)) out.2) args s 0 0 (AE E)) (F0 m 49 ls [.int x112, .ref (a 9 0)]) := by
        intro H locs ls hR hS hl
        clear hz
        refine lv_iconst (v := 2) hx hb dX9_says_49 (by decide) ?_
        obtain ⟨⟨x115, u116⟩, hc114, h⟩ := ob h
        replace h := bd_x (x := x115) rfl h
        replace h := bd_x (x := u116) rfl h
        refine r_callV1 (As := [.int x112, .int 2]) (rest := []) (r := 9) (i := 0) C (vX9_bad hc114) hR hS (lv0 (by decide) (by decide)) (by decide) ml_X9_162 mw_X9_bad rfl ⟨Nat.le_of_ble_eq_true rfl, Nat.le_of_ble_eq_true rfl, Nat.le_of_ble_eq_true rfl, Nat.le_of_ble_eq_true rfl⟩ hl.1 rfl (Nat.le_of_ble_eq_true rfl) dX9_says_50 (fun H locs hR hS => ?_)
        refine lv_if_eq (tgt := 58) hx hb dX9_says_53 (by decide) (fun c_117 => ?_) (fun c_117 => ?_)
        · rw [if_pos c_117] at h
          refine lv_aload_n hx hb dX9_says_58 rfl (lv_at hl 0 rfl) ?_
          refine lv_iload_n hx hb dX9_says_59 rfl (lv_at hl 1 rfl) ?_
          refine lv_iload_n hx hb dX9_says_60 rfl (lv_at hl 2 rfl) ?_
          refine lv_iload_n hx hb dX9_says_61 rfl (lv_at hl 3 rfl) ?_
          obtain ⟨⟨x119, u120⟩, hc118, h⟩ := ob h
          replace h := bd_x (x := x119) rfl h
          replace h := bd_x (x := u120) rfl h
          refine r_callV1 (As := [.int x1, .int x2, .int x3]) (rest := []) (r := 9) (i := 0) C (vX9_saysBy hc118) hR hS (lv0 (by decide) (by decide)) (by decide) ml_X9_369 mw_X9_saysBy rfl ⟨Nat.le_of_ble_eq_true rfl, Nat.le_of_ble_eq_true rfl, Nat.le_of_ble_eq_true rfl, Nat.le_of_ble_eq_true rfl⟩ hl.1 rfl (Nat.le_of_ble_eq_true rfl) dX9_says_62 (fun H locs hR hS => ?_)
          obtain ⟨_, hz121, h⟩ := ob h
          cases h
          exact e_zret C hr (zb_narrow hz121) hR hS (Nat.le_of_ble_eq_true rfl) (Nat.le_of_ble_eq_true rfl) dX9_says_65
        · rw [if_neg c_117] at h
          refine lv_iconst (v := 0) hx hb dX9_says_56 (by decide) ?_
          cases h
          exact e_zret (v := 0) C hr rfl hR hS (Nat.le_of_ble_eq_true rfl) (Nat.le_of_ble_eq_true rfl) dX9_says_57
      clear h
      have h := hz
      clear hz
      refine jp_cut h (fun j122 hj122 h => ?_)
      have Kj122 : ∀  (H : Heap) (locs : List Loc) (ls : Array Slot), j122 = some x112 → Rel E a u108 H → va_S (AE E) s.heap H locs → lv_has ls 4 [(0, .ref (a 9 0)), (1, .int x1), (2, .int x2), (3, .int x3)] → W p l e { frames := 11, cells := 0, slots := 0, locals := 275 } s m args below meth c H locs 0 0 (MQ below (QW E a (some (.int out.1)) out.2) args s 0 0 (AE E)) (F0 m 44 ls [.ref (a 9 0)]) := by
        intro  H locs ls h hR hS hl
        replace h := jx0 hj122 h
        refine lv_iconst (v := 1) hx hb dX9_says_44 (by decide) ?_
        refine lv_goto (tgt := 49) hx hb dX9_says_45 (by decide) ?_
        cases h
        exact Kj113 _ _ _ hR hS (lv_sub hl [0, 1, 2, 3] rfl)
      refine lv_if_eq (tgt := 44) hx hb dX9_says_32 (by decide) (fun c_123 => ?_) (fun c_123 => ?_)
      · rw [if_pos c_123] at h
        exact Kj122  _ _ _ h hR hS (lv_sub hl [0, 1, 2, 3] rfl)
      · rw [if_neg c_123] at h
        refine lv_iload_n hx hb dX9_says_35 rfl (lv_at hl 3 rfl) ?_
        refine lv_iconst (v := 0) hx hb dX9_says_36 (by decide) ?_
        refine lv_iconst (v := 2) hx hb dX9_says_37 (by decide) ?_
        obtain ⟨x125, hc124, h⟩ := ob h
        refine r_callS1 (As := [.int x3, .int 0, .int 2]) (rest := [.ref (a 9 0)]) C (vX9_in hc124) hR hS ml_X9_113 ms_X9_in rfl ⟨Nat.le_of_ble_eq_true rfl, Nat.le_of_ble_eq_true rfl, Nat.le_of_ble_eq_true rfl, Nat.le_of_ble_eq_true rfl⟩ hl.1 rfl (Nat.le_of_ble_eq_true rfl) dX9_says_38 (fun H locs hR hS => ?_)
        refine lv_if_ne (tgt := 48) hx hb dX9_says_41 (by decide) (fun c_126 => ?_) (fun c_126 => ?_)
        · rw [if_neg c_126] at h
          refine lv_iconst (v := 0) hx hb dX9_says_48 (by decide) ?_
          cases h
          exact Kj113 _ _ _ hR hS (lv_sub hl [0, 1, 2, 3] rfl)
        · rw [if_pos c_126] at h
          exact Kj122  _ _ _ h hR hS (lv_sub hl [0, 1, 2, 3] rfl)
  clear h
  have h := hz
  clear hz
  refine lv_if_ne (tgt := 18) hx hb dX9_says_11 (by decide) (fun c_127 => ?_) (fun c_127 => ?_)
  · rw [if_neg c_127] at h
    refine lv_iconst (v := 0) hx hb dX9_says_18 (by decide) ?_
    cases h
    exact Kj105 _ _ _ hR hS (lv_sub hl [0, 1, 2, 3] rfl)
  · rw [if_pos c_127] at h
    refine lv_iconst (v := 1) hx hb dX9_says_14 (by decide) ?_
    refine lv_goto (tgt := 19) hx hb dX9_says_15 (by decide) ?_
    cases h
    exact Kj105 _ _ _ hR hS (lv_sub hl [0, 1, 2, 3] rfl)
set_option maxHeartbeats 4000000 in
set_option maxRecDepth 100000 in
theorem vX9_isDropped {l : Launch} {E : EV} {a : Nat → Nat → Nat} {u0 : HS} {x1 : Int32} {x2 : Int32} {out : Int32} (h : mX9_isDropped u0 x1 x2 = some out) : Ct l E yX9_isDropped cX9_isDropped 5 (some .boolean) 3 70 0 0 a u0 [.ref (a 9 0), .int x1, .int x2] (some (.int out)) u0 := by
  refine Ct.start (by decide) (Nat.le_of_ble_eq_true rfl) ?_
  intro p e s m args below meth c ls C hr hR hS hl
  have C : Cx E p s m args meth c cX9_isDropped 5 RX9 := C
  have hl : lv_has ls 5 [(0, .ref (a 9 0)), (1, .int x1), (2, .int x2)] := hl
  have hx := C.1
  have hb := C.2.1
  unfold mX9_isDropped at h
  refine lv_aload_n hx hb dX9_isDropped_0 rfl (lv_at hl 0 rfl) ?_
  refine r_get C hR 9 0 33 (v := .ref (a 80 0)) (lv0 (by decide) (by decide)) (by decide) (by decide) rfl fl_X9_61 dX9_isDropped_1 ?_
  refine lv_iload_n hx hb dX9_isDropped_4 rfl (lv_at hl 1 rfl) ?_
  obtain ⟨k101, hk101, h⟩ := ob h
  have hLk101 : k101 < cntS 81 := by have q1 := (ck_in hk101).2.2; have q2 : cntS 81 = 15 := rfl; omega
  refine r_aald C hR 80 0 81 0 6 (lv0 (by decide) (by decide)) (by decide) rfl rfl rfl (fun _ => rfl) rfl hk101 dX9_isDropped_5 ?_
  refine lv_iconst (v := 0) hx hb dX9_isDropped_6 (by decide) ?_
  obtain ⟨k102, hk102, h⟩ := ob h
  refine r_ald C hR 81 k101 (lv0 hLk101 (by decide)) (by decide) rfl (fun _ => rfl) rfl hk102 dX9_isDropped_7 ?_
  refine lv_topi (fun x103 ex103 => ?_)
  replace h := bd_x ex103 h
  refine lv_istore_n (lv' := [(3, .int x103), (0, .ref (a 9 0)), (1, .int x1), (2, .int x2)]) hx hb dX9_isDropped_8 rfl hl (by decide) rfl (fun ls hl => ?_)
  refine lv_iconst (v := 0) hx hb dX9_isDropped_9 (by decide) ?_
  refine lv_istore (lv' := [(4, .int 0), (3, .int x103), (0, .ref (a 9 0)), (1, .int x1), (2, .int x2)]) hx hb dX9_isDropped_10 hl (by decide) rfl (fun ls hl => ?_)
  refine jp_cut h (fun w105 hw105 h => ?_)
  have Kw105 : ∀  (H : Heap) (locs : List Loc) (ls : Array Slot), w105 = some out → Rel E a u0 H → va_S (AE E) s.heap H locs → lv_has ls 5 [] → W p l e { frames := 3, cells := 0, slots := 0, locals := 70 } s m args below meth c H locs 0 0 (MQ below (QW E a (some (.int out)) u0) args s 0 0 (AE E)) (F0 m 71 ls []) := by
    intro  H locs ls h hR hS hl
    replace h := jx0 hw105 h
    refine lv_iconst (v := 0) hx hb dX9_isDropped_71 (by decide) ?_
    cases h
    exact e_zret (v := 0) C hr rfl hR hS (Nat.le_of_ble_eq_true rfl) (Nat.le_of_ble_eq_true rfl) dX9_isDropped_72
  have LP : ∀ (fu : Nat) (x104 : Int32) (H : Heap) (locs : List Loc) (ls : Array Slot), mX9_isDropped_L12 u0 x103 x2 x1 w105 fu x104 = some out → Rel E a u0 H → va_S (AE E) s.heap H locs → lv_has ls 5 [(0, .ref (a 9 0)), (1, .int x1), (2, .int x2), (3, .int x103), (4, .int x104)] → W p l e { frames := 3, cells := 0, slots := 0, locals := 70 } s m args below meth c H locs 0 0 (MQ below (QW E a (some (.int out)) u0) args s 0 0 (AE E)) (F0 m 12 ls []) := by
    intro fu
    induction fu with
    | zero =>
      intro x104 H locs ls h
      have h2 : (none : Option Int32) = some out := h
      cases h2
    | succ fu ih =>
      intro x104 H locs ls h hR hS hl
      rw [mX9_isDropped_L12.eq_2] at h
      refine lv_iload hx hb dX9_isDropped_12 (lv_at hl 4 rfl) ?_
      refine lv_aload_n hx hb dX9_isDropped_14 rfl (lv_at hl 0 rfl) ?_
      refine lv_iload_n hx hb dX9_isDropped_15 rfl (lv_at hl 3 rfl) ?_
      obtain ⟨x107, hc106, h⟩ := ob h
      refine r_callV1 (As := [.int x103]) (rest := [.int x104]) (r := 9) (i := 0) C (vX9_endOf hc106) hR hS (lv0 (by decide) (by decide)) (by decide) ml_X9_260 mw_X9_endOf rfl ⟨Nat.le_of_ble_eq_true rfl, Nat.le_of_ble_eq_true rfl, Nat.le_of_ble_eq_true rfl, Nat.le_of_ble_eq_true rfl⟩ hl.1 rfl (Nat.le_of_ble_eq_true rfl) dX9_isDropped_16 (fun H locs hR hS => ?_)
      refine lv_icmp_gt (tgt := 71) hx hb dX9_isDropped_19 (by decide) (fun c_108 => ?_) (fun c_108 => ?_)
      · rw [if_pos c_108] at h
        exact Kw105  _ _ _ h hR hS (lv_sub hl [] rfl)
      · rw [if_neg c_108] at h
        refine lv_aload_n hx hb dX9_isDropped_22 rfl (lv_at hl 0 rfl) ?_
        refine lv_iload_n hx hb dX9_isDropped_23 rfl (lv_at hl 3 rfl) ?_
        refine lv_iload_n hx hb dX9_isDropped_24 rfl (lv_at hl 2 rfl) ?_
        refine lv_iload hx hb dX9_isDropped_25 (lv_at hl 4 rfl) ?_
        obtain ⟨x110, hc109, h⟩ := ob h
        refine r_callV1 (As := [.int x103, .int x2, .int x104]) (rest := []) (r := 9) (i := 0) C (vX9_isThere hc109) hR hS (lv0 (by decide) (by decide)) (by decide) ml_X9_241 mw_X9_isThere rfl ⟨Nat.le_of_ble_eq_true rfl, Nat.le_of_ble_eq_true rfl, Nat.le_of_ble_eq_true rfl, Nat.le_of_ble_eq_true rfl⟩ hl.1 rfl (Nat.le_of_ble_eq_true rfl) dX9_isDropped_27 (fun H locs hR hS => ?_)
        refine jp_cut h (fun j111 hj111 h => ?_)
        have Kj111 : ∀  (H : Heap) (locs : List Loc) (ls : Array Slot), j111 = some out → Rel E a u0 H → va_S (AE E) s.heap H locs → lv_has ls 5 [(0, .ref (a 9 0)), (1, .int x1), (2, .int x2), (3, .int x103), (4, .int x104)] → W p l e { frames := 3, cells := 0, slots := 0, locals := 70 } s m args below meth c H locs 0 0 (MQ below (QW E a (some (.int out)) u0) args s 0 0 (AE E)) (F0 m 65 ls []) := by
          intro  H locs ls h hR hS hl
          replace h := jx0 hj111 h
          obtain ⟨x112, ex112⟩ : ∃ z : Int32, z = x104 + 1 := ⟨_, rfl⟩
          replace h := bd_x ex112 h
          refine lv_iinc (v := x112) (lv' := [(4, .int x112), (0, .ref (a 9 0)), (1, .int x1), (2, .int x2), (3, .int x103)]) hx hb dX9_isDropped_65 hl (k := 4) rfl (by rw [ex112]; rfl) (by decide) rfl (fun ls hl => ?_)
          refine lv_goto (tgt := 12) hx hb dX9_isDropped_68 (by decide) ?_
          exact ih _ _ _ _ h hR hS (lv_sub hl [1, 2, 3, 4, 0] rfl)
        refine lv_if_eq (tgt := 65) hx hb dX9_isDropped_30 (by decide) (fun c_113 => ?_) (fun c_113 => ?_)
        · rw [if_pos c_113] at h
          exact Kj111  _ _ _ h hR hS (lv_sub hl [0, 1, 2, 3, 4] rfl)
        · rw [if_neg c_113] at h
          refine lv_aload_n hx hb dX9_isDropped_33 rfl (lv_at hl 0 rfl) ?_
          refine r_get C hR 9 0 21 (v := .ref (a 70 0)) (lv0 (by decide) (by decide)) (by decide) (by decide) rfl fl_X9_37 dX9_isDropped_34 ?_
          refine lv_aload_n hx hb dX9_isDropped_37 rfl (lv_at hl 0 rfl) ?_
          refine r_get C hR 9 0 33 (v := .ref (a 80 0)) (lv0 (by decide) (by decide)) (by decide) (by decide) rfl fl_X9_61 dX9_isDropped_38 ?_
          refine lv_iload_n hx hb dX9_isDropped_41 rfl (lv_at hl 1 rfl) ?_
          obtain ⟨k114, hk114, h⟩ := ob h
          have hLk114 : k114 < cntS 81 := by have q1 := (ck_in hk114).2.2; have q2 : cntS 81 = 15 := rfl; omega
          refine r_aald C hR 80 0 81 0 6 (lv0 (by decide) (by decide)) (by decide) rfl rfl rfl (fun _ => rfl) rfl hk114 dX9_isDropped_42 ?_
          refine lv_iconst (v := 1) hx hb dX9_isDropped_43 (by decide) ?_
          obtain ⟨k115, hk115, h⟩ := ob h
          refine r_ald C hR 81 k114 (lv0 hLk114 (by decide)) (by decide) rfl (fun _ => rfl) rfl hk115 dX9_isDropped_44 ?_
          obtain ⟨k116, hk116, h⟩ := ob h
          have hLk116 : k116 < cntS 71 := by have q1 := (ck_in hk116).2.2; have q2 : cntS 71 = 6 := rfl; omega
          refine r_aald C hR 70 0 71 0 6 (lv0 (by decide) (by decide)) (by decide) rfl rfl rfl (fun _ => rfl) rfl hk116 dX9_isDropped_45 ?_
          refine lv_iconst (v := 1) hx hb dX9_isDropped_46 (by decide) ?_
          obtain ⟨k117, hk117, h⟩ := ob h
          refine r_ald C hR 71 k116 (lv0 hLk116 (by decide)) (by decide) rfl (fun _ => rfl) rfl hk117 dX9_isDropped_47 ?_
          refine lv_aload_n hx hb dX9_isDropped_48 rfl (lv_at hl 0 rfl) ?_
          refine lv_iload_n hx hb dX9_isDropped_49 rfl (lv_at hl 3 rfl) ?_
          refine lv_iload_n hx hb dX9_isDropped_50 rfl (lv_at hl 2 rfl) ?_
          refine lv_iload hx hb dX9_isDropped_51 (lv_at hl 4 rfl) ?_
          obtain ⟨x119, hc118, h⟩ := ob h
          refine r_callV1 (As := [.int x103, .int x2, .int x104]) (rest := [.int (gI u0 71 k116 k117)]) (r := 9) (i := 0) C (vX9_colourOf hc118) hR hS (lv0 (by decide) (by decide)) (by decide) ml_X9_269 mw_X9_colourOf rfl ⟨Nat.le_of_ble_eq_true rfl, Nat.le_of_ble_eq_true rfl, Nat.le_of_ble_eq_true rfl, Nat.le_of_ble_eq_true rfl⟩ hl.1 rfl (Nat.le_of_ble_eq_true rfl) dX9_isDropped_53 (fun H locs hR hS => ?_)
          refine lv_ishr hx hb dX9_isDropped_56 ?_
          refine lv_iconst (v := 1) hx hb dX9_isDropped_57 (by decide) ?_
          refine lv_iand hx hb dX9_isDropped_58 ?_
          refine lv_iconst (v := 1) hx hb dX9_isDropped_59 (by decide) ?_
          refine lv_icmp_ne (tgt := 65) hx hb dX9_isDropped_60 (by decide) (fun c_120 => ?_) (fun c_120 => ?_)
          · rw [if_neg c_120] at h
            exact Kj111  _ _ _ h hR hS (lv_sub hl [0, 1, 2, 3, 4] rfl)
          · rw [if_pos c_120] at h
            refine lv_iconst (v := 1) hx hb dX9_isDropped_63 (by decide) ?_
            cases h
            exact e_zret (v := 1) C hr rfl hR hS (Nat.le_of_ble_eq_true rfl) (Nat.le_of_ble_eq_true rfl) dX9_isDropped_64
  exact LP FU _ _ _ _ h hR hS (lv_sub hl [2, 3, 4, 1, 0] rfl)
set_option maxHeartbeats 4000000 in
set_option maxRecDepth 100000 in
theorem vX9_nearest {l : Launch} {E : EV} {a : Nat → Nat → Nat} {u0 : HS} {x1 : Int32} {x2 : Int32} {out : Int32} (h : mX9_nearest u0 x1 x2 = some out) : Ct l E yX9_nearest cX9_nearest 5 (some .int) 6 148 0 0 a u0 [.ref (a 9 0), .int x1, .int x2] (some (.int out)) u0 := by
  refine Ct.start (by decide) (Nat.le_of_ble_eq_true rfl) ?_
  intro p e s m args below meth c ls C hr hR hS hl
  have C : Cx E p s m args meth c cX9_nearest 5 RX9 := C
  have hl : lv_has ls 5 [(0, .ref (a 9 0)), (1, .int x1), (2, .int x2)] := hl
  have hx := C.1
  have hb := C.2.1
  unfold mX9_nearest at h
  refine lv_bipush (v := 99) hx hb dX9_nearest_0 (by decide) ?_
  refine lv_istore_n (lv' := [(3, .int 99), (0, .ref (a 9 0)), (1, .int x1), (2, .int x2)]) hx hb dX9_nearest_2 rfl hl (by decide) rfl (fun ls hl => ?_)
  refine lv_iconst (v := 0) hx hb dX9_nearest_3 (by decide) ?_
  refine lv_istore (lv' := [(4, .int 0), (3, .int 99), (0, .ref (a 9 0)), (1, .int x1), (2, .int x2)]) hx hb dX9_nearest_4 hl (by decide) rfl (fun ls hl => ?_)
  refine jp_cut h (fun w104 hw104 h => ?_)
  have Kw104 : ∀ (x103 : Int32) (H : Heap) (locs : List Loc) (ls : Array Slot), w104 x103 = some out → Rel E a u0 H → va_S (AE E) s.heap H locs → lv_has ls 5 [(3, .int x103)] → W p l e { frames := 6, cells := 0, slots := 0, locals := 148 } s m args below meth c H locs 0 0 (MQ below (QW E a (some (.int out)) u0) args s 0 0 (AE E)) (F0 m 42 ls []) := by
    intro x103 H locs ls h hR hS hl
    replace h := jx1 hw104 h
    refine lv_iload_n hx hb dX9_nearest_42 rfl (lv_at hl 0 rfl) ?_
    cases h
    exact e_iret C hr hR hS (Nat.le_of_ble_eq_true rfl) (Nat.le_of_ble_eq_true rfl) dX9_nearest_43
  have LP : ∀ (fu : Nat) (x101 : Int32) (x102 : Int32) (H : Heap) (locs : List Loc) (ls : Array Slot), mX9_nearest_L6 x1 u0 x2 w104 fu x101 x102 = some out → Rel E a u0 H → va_S (AE E) s.heap H locs → lv_has ls 5 [(0, .ref (a 9 0)), (1, .int x1), (2, .int x2), (3, .int x101), (4, .int x102)] → W p l e { frames := 6, cells := 0, slots := 0, locals := 148 } s m args below meth c H locs 0 0 (MQ below (QW E a (some (.int out)) u0) args s 0 0 (AE E)) (F0 m 6 ls []) := by
    intro fu
    induction fu with
    | zero =>
      intro x101 x102 H locs ls h
      have h2 : (none : Option Int32) = some out := h
      cases h2
    | succ fu ih =>
      intro x101 x102 H locs ls h hR hS hl
      rw [mX9_nearest_L6.eq_2] at h
      refine lv_iload hx hb dX9_nearest_6 (lv_at hl 4 rfl) ?_
      refine lv_aload_n hx hb dX9_nearest_8 rfl (lv_at hl 0 rfl) ?_
      refine lv_aload_n hx hb dX9_nearest_9 rfl (lv_at hl 0 rfl) ?_
      refine r_get C hR 9 0 33 (v := .ref (a 80 0)) (lv0 (by decide) (by decide)) (by decide) (by decide) rfl fl_X9_61 dX9_nearest_10 ?_
      refine lv_iload_n hx hb dX9_nearest_13 rfl (lv_at hl 1 rfl) ?_
      obtain ⟨k105, hk105, h⟩ := ob h
      have hLk105 : k105 < cntS 81 := by have q1 := (ck_in hk105).2.2; have q2 : cntS 81 = 15 := rfl; omega
      refine r_aald C hR 80 0 81 0 6 (lv0 (by decide) (by decide)) (by decide) rfl rfl rfl (fun _ => rfl) rfl hk105 dX9_nearest_14 ?_
      refine lv_iconst (v := 0) hx hb dX9_nearest_15 (by decide) ?_
      obtain ⟨k106, hk106, h⟩ := ob h
      refine r_ald C hR 81 k105 (lv0 hLk105 (by decide)) (by decide) rfl (fun _ => rfl) rfl hk106 dX9_nearest_16 ?_
      obtain ⟨x108, hc107, h⟩ := ob h
      refine r_callV1 (As := [.int (gI u0 81 k105 k106)]) (rest := [.int x102]) (r := 9) (i := 0) C (vX9_endOf hc107) hR hS (lv0 (by decide) (by decide)) (by decide) ml_X9_260 mw_X9_endOf rfl ⟨Nat.le_of_ble_eq_true rfl, Nat.le_of_ble_eq_true rfl, Nat.le_of_ble_eq_true rfl, Nat.le_of_ble_eq_true rfl⟩ hl.1 rfl (Nat.le_of_ble_eq_true rfl) dX9_nearest_17 (fun H locs hR hS => ?_)
      refine lv_icmp_gt (tgt := 42) hx hb dX9_nearest_20 (by decide) (fun c_109 => ?_) (fun c_109 => ?_)
      · rw [if_pos c_109] at h
        exact Kw104 _ _ _ _ h hR hS (lv_sub hl [3] rfl)
      · rw [if_neg c_109] at h
        refine lv_iload_n hx hb dX9_nearest_23 rfl (lv_at hl 3 rfl) ?_
        refine lv_aload_n hx hb dX9_nearest_24 rfl (lv_at hl 0 rfl) ?_
        refine lv_iload_n hx hb dX9_nearest_25 rfl (lv_at hl 1 rfl) ?_
        refine lv_iload_n hx hb dX9_nearest_26 rfl (lv_at hl 2 rfl) ?_
        refine lv_iload hx hb dX9_nearest_27 (lv_at hl 4 rfl) ?_
        obtain ⟨x111, hc110, h⟩ := ob h
        refine r_callV1 (As := [.int x1, .int x2, .int x102]) (rest := [.int x101]) (r := 9) (i := 0) C (vX9_nearOf hc110) hR hS (lv0 (by decide) (by decide)) (by decide) ml_X9_317 mw_X9_nearOf rfl ⟨Nat.le_of_ble_eq_true rfl, Nat.le_of_ble_eq_true rfl, Nat.le_of_ble_eq_true rfl, Nat.le_of_ble_eq_true rfl⟩ hl.1 rfl (Nat.le_of_ble_eq_true rfl) dX9_nearest_29 (fun H locs hR hS => ?_)
        obtain ⟨x113, hc112, h⟩ := ob h
        refine r_callS1 (As := [.int x101, .int x111]) (rest := []) C (vX9_less hc112) hR hS ml_X9_182 ms_X9_less rfl ⟨Nat.le_of_ble_eq_true rfl, Nat.le_of_ble_eq_true rfl, Nat.le_of_ble_eq_true rfl, Nat.le_of_ble_eq_true rfl⟩ hl.1 rfl (Nat.le_of_ble_eq_true rfl) dX9_nearest_32 (fun H locs hR hS => ?_)
        refine lv_istore_n (lv' := [(3, .int x113), (0, .ref (a 9 0)), (1, .int x1), (2, .int x2), (4, .int x102)]) hx hb dX9_nearest_35 rfl hl (by decide) rfl (fun ls hl => ?_)
        obtain ⟨x114, ex114⟩ : ∃ z : Int32, z = x102 + 1 := ⟨_, rfl⟩
        replace h := bd_x ex114 h
        refine lv_iinc (v := x114) (lv' := [(4, .int x114), (3, .int x113), (0, .ref (a 9 0)), (1, .int x1), (2, .int x2)]) hx hb dX9_nearest_36 hl (k := 4) rfl (by rw [ex114]; rfl) (by decide) rfl (fun ls hl => ?_)
        refine lv_goto (tgt := 6) hx hb dX9_nearest_39 (by decide) ?_
        exact ih _ _ _ _ _ h hR hS (lv_sub hl [2, 3, 4, 1, 0] rfl)
  exact LP FU _ _ _ _ _ h hR hS (lv_sub hl [2, 3, 4, 1, 0] rfl)
set_option maxHeartbeats 4000000 in
set_option maxRecDepth 100000 in
theorem vX9_miss {l : Launch} {E : EV} {a : Nat → Nat → Nat} {u0 : HS} {x1 : Int32} {x2 : Int32} {x3 : Int32} {out : (Int32 × HS)} (h : mX9_miss u0 x1 x2 x3 = some out) : Ct l E yX9_miss cX9_miss 5 (some .int) 11 275 0 0 a u0 [.ref (a 9 0), .int x1, .int x2, .int x3] (some (.int out.1)) out.2 := by
  refine Ct.start (by decide) (Nat.le_of_ble_eq_true rfl) ?_
  intro p e s m args below meth c ls C hr hR hS hl
  have C : Cx E p s m args meth c cX9_miss 5 RX9 := C
  have hl : lv_has ls 5 [(0, .ref (a 9 0)), (1, .int x1), (2, .int x2), (3, .int x3)] := hl
  have hx := C.1
  have hb := C.2.1
  unfold mX9_miss at h
  refine lv_aload_n hx hb dX9_miss_0 rfl (lv_at hl 0 rfl) ?_
  refine lv_iconst (v := 0) hx hb dX9_miss_1 (by decide) ?_
  refine r_putI (ty := .int) C hR hS 9 0 0 (lv0 (by decide) (by decide)) (by decide) (by decide) (fun _ => rfl) fl_X9_76 (by decide) (by decide +kernel) rfl rfl dX9_miss_2 (fun H locs hR hS => ?_)
  obtain ⟨u101, eu101⟩ : ∃ z : HS, z = wI u0 9 0 0 0 := ⟨_, rfl⟩
  rw [← eu101] at hR
  replace h := bd_x eu101 h
  clear eu101
  refine lv_aload_n hx hb dX9_miss_5 rfl (lv_at hl 0 rfl) ?_
  refine lv_aload_n hx hb dX9_miss_6 rfl (lv_at hl 0 rfl) ?_
  refine lv_iload_n hx hb dX9_miss_7 rfl (lv_at hl 1 rfl) ?_
  obtain ⟨x103, hc102, h⟩ := ob h
  refine r_callV1 (As := [.int x1]) (rest := [.ref (a 9 0)]) (r := 9) (i := 0) C (vX9_isLaw hc102) hR hS (lv0 (by decide) (by decide)) (by decide) ml_X9_357 mw_X9_isLaw rfl ⟨Nat.le_of_ble_eq_true rfl, Nat.le_of_ble_eq_true rfl, Nat.le_of_ble_eq_true rfl, Nat.le_of_ble_eq_true rfl⟩ hl.1 rfl (Nat.le_of_ble_eq_true rfl) dX9_miss_8 (fun H locs hR hS => ?_)
  obtain ⟨x104, hz, h⟩ := ob h
  have Kj105 : ∀ (H : Heap) (locs : List Loc) (ls : Array Slot), Rel E a u101 H → va_S (AE E) s.heap H locs → lv_has ls 5 [(0, .ref (a 9 0)), (1, .int x1), (2, .int x2), (3, .int x3)] → W p l e { frames := 11, cells := 0, slots := 0, locals := 275 } s m args below meth c H locs 0 0 (MQ below (QW E a (some (.int out.1)) out.2) args s 0 0 (AE E)) (F0 m 19 ls [.int x104, .ref (a 9 0)]) := by
    intro H locs ls hR hS hl
    clear hz
    refine lv_iconst (v := 1) hx hb dX9_miss_19 (by decide) ?_
    obtain ⟨⟨x107, u108⟩, hc106, h⟩ := ob h
    replace h := bd_x (x := x107) rfl h
    replace h := bd_x (x := u108) rfl h
    refine r_callV1 (As := [.int x104, .int 1]) (rest := []) (r := 9) (i := 0) C (vX9_bad hc106) hR hS (lv0 (by decide) (by decide)) (by decide) ml_X9_162 mw_X9_bad rfl ⟨Nat.le_of_ble_eq_true rfl, Nat.le_of_ble_eq_true rfl, Nat.le_of_ble_eq_true rfl, Nat.le_of_ble_eq_true rfl⟩ hl.1 rfl (Nat.le_of_ble_eq_true rfl) dX9_miss_20 (fun H locs hR hS => ?_)
    refine lv_if_ne (tgt := 57) hx hb dX9_miss_23 (by decide) (fun c_109 => ?_) (fun c_109 => ?_)
    · rw [if_neg c_109] at h
      refine lv_iconst (v := 0) hx hb dX9_miss_57 (by decide) ?_
      cases h
      exact e_iret C hr hR hS (Nat.le_of_ble_eq_true rfl) (Nat.le_of_ble_eq_true rfl) dX9_miss_58
    · rw [if_pos c_109] at h
      refine lv_aload_n hx hb dX9_miss_26 rfl (lv_at hl 0 rfl) ?_
      refine lv_aload_n hx hb dX9_miss_27 rfl (lv_at hl 0 rfl) ?_
      refine lv_iload_n hx hb dX9_miss_28 rfl (lv_at hl 2 rfl) ?_
      obtain ⟨x111, hc110, h⟩ := ob h
      refine r_callV1 (As := [.int x2]) (rest := [.ref (a 9 0)]) (r := 9) (i := 0) C (vX9_isLooker hc110) hR hS (lv0 (by decide) (by decide)) (by decide) ml_X9_295 mw_X9_isLooker rfl ⟨Nat.le_of_ble_eq_true rfl, Nat.le_of_ble_eq_true rfl, Nat.le_of_ble_eq_true rfl, Nat.le_of_ble_eq_true rfl⟩ hl.1 rfl (Nat.le_of_ble_eq_true rfl) dX9_miss_29 (fun H locs hR hS => ?_)
      obtain ⟨x112, hz, h⟩ := ob h
      have Kj113 : ∀ (H : Heap) (locs : List Loc) (ls : Array Slot), Rel E a u108 H → va_S (AE E) s.heap H locs → lv_has ls 5 [(0, .ref (a 9 0)), (1, .int x1), (2, .int x2), (3, .int x3)] → W p l e { frames := 11, cells := 0, slots := 0, locals := 275 } s m args below meth c H locs 0 0 (MQ below (QW E a (some (.int out.1)) out.2) args s 0 0 (AE E)) (F0 m 50 ls [.int x112, .ref (a 9 0)]) := by
        intro H locs ls hR hS hl
        clear hz
        refine lv_iconst (v := 2) hx hb dX9_miss_50 (by decide) ?_
        obtain ⟨⟨x115, u116⟩, hc114, h⟩ := ob h
        replace h := bd_x (x := x115) rfl h
        replace h := bd_x (x := u116) rfl h
        refine r_callV1 (As := [.int x112, .int 2]) (rest := []) (r := 9) (i := 0) C (vX9_bad hc114) hR hS (lv0 (by decide) (by decide)) (by decide) ml_X9_162 mw_X9_bad rfl ⟨Nat.le_of_ble_eq_true rfl, Nat.le_of_ble_eq_true rfl, Nat.le_of_ble_eq_true rfl, Nat.le_of_ble_eq_true rfl⟩ hl.1 rfl (Nat.le_of_ble_eq_true rfl) dX9_miss_51 (fun H locs hR hS => ?_)
        refine lv_if_eq (tgt := 59) hx hb dX9_miss_54 (by decide) (fun c_117 => ?_) (fun c_117 => ?_)
        · rw [if_pos c_117] at h
          refine lv_aload_n hx hb dX9_miss_59 rfl (lv_at hl 0 rfl) ?_
          refine lv_aload_n hx hb dX9_miss_60 rfl (lv_at hl 0 rfl) ?_
          refine r_get C hR 9 0 33 (v := .ref (a 80 0)) (lv0 (by decide) (by decide)) (by decide) (by decide) rfl fl_X9_61 dX9_miss_61 ?_
          refine lv_iload_n hx hb dX9_miss_64 rfl (lv_at hl 2 rfl) ?_
          obtain ⟨k118, hk118, h⟩ := ob h
          have hLk118 : k118 < cntS 81 := by have q1 := (ck_in hk118).2.2; have q2 : cntS 81 = 15 := rfl; omega
          refine r_aald C hR 80 0 81 0 6 (lv0 (by decide) (by decide)) (by decide) rfl rfl rfl (fun _ => rfl) rfl hk118 dX9_miss_65 ?_
          refine lv_iconst (v := 0) hx hb dX9_miss_66 (by decide) ?_
          obtain ⟨k119, hk119, h⟩ := ob h
          refine r_ald C hR 81 k118 (lv0 hLk118 (by decide)) (by decide) rfl (fun _ => rfl) rfl hk119 dX9_miss_67 ?_
          obtain ⟨x121, hc120, h⟩ := ob h
          refine r_callV1 (As := [.int (gI u116 81 k118 k119)]) (rest := []) (r := 9) (i := 0) C (vX9_oddOf hc120) hR hS (lv0 (by decide) (by decide)) (by decide) ml_X9_263 mw_X9_oddOf rfl ⟨Nat.le_of_ble_eq_true rfl, Nat.le_of_ble_eq_true rfl, Nat.le_of_ble_eq_true rfl, Nat.le_of_ble_eq_true rfl⟩ hl.1 rfl (Nat.le_of_ble_eq_true rfl) dX9_miss_68 (fun H locs hR hS => ?_)
          refine lv_istore (lv' := [(4, .int x121), (0, .ref (a 9 0)), (1, .int x1), (2, .int x2), (3, .int x3)]) hx hb dX9_miss_71 hl (by decide) rfl (fun ls hl => ?_)
          refine lv_aload_n hx hb dX9_miss_73 rfl (lv_at hl 1 rfl) ?_
          refine lv_iload_n hx hb dX9_miss_74 rfl (lv_at hl 2 rfl) ?_
          refine lv_iload_n hx hb dX9_miss_75 rfl (lv_at hl 3 rfl) ?_
          refine lv_iconst (v := 0) hx hb dX9_miss_76 (by decide) ?_
          obtain ⟨⟨x123, u124⟩, hc122, h⟩ := ob h
          replace h := bd_x (x := x123) rfl h
          replace h := bd_x (x := u124) rfl h
          refine r_callV1 (As := [.int x1, .int x2, .int 0]) (rest := []) (r := 9) (i := 0) C (vX9_saysBy hc122) hR hS (lv0 (by decide) (by decide)) (by decide) ml_X9_369 mw_X9_saysBy rfl ⟨Nat.le_of_ble_eq_true rfl, Nat.le_of_ble_eq_true rfl, Nat.le_of_ble_eq_true rfl, Nat.le_of_ble_eq_true rfl⟩ hl.1 rfl (Nat.le_of_ble_eq_true rfl) dX9_miss_77 (fun H locs hR hS => ?_)
          refine lv_if_eq (tgt := 102) hx hb dX9_miss_80 (by decide) (fun c_125 => ?_) (fun c_125 => ?_)
          · rw [if_pos c_125] at h
            refine lv_iload hx hb dX9_miss_102 (lv_at hl 0 rfl) ?_
            refine lv_iconst (v := (-1)) hx hb dX9_miss_104 (by decide) ?_
            refine lv_icmp_ne (tgt := 110) hx hb dX9_miss_105 (by decide) (fun c_126 => ?_) (fun c_126 => ?_)
            · rw [if_neg c_126] at h
              refine lv_aload_n hx hb dX9_miss_110 rfl (lv_at hl 1 rfl) ?_
              refine lv_iload_n hx hb dX9_miss_111 rfl (lv_at hl 2 rfl) ?_
              refine lv_iload_n hx hb dX9_miss_112 rfl (lv_at hl 3 rfl) ?_
              refine lv_iload hx hb dX9_miss_113 (lv_at hl 0 rfl) ?_
              obtain ⟨⟨x128, u129⟩, hc127, h⟩ := ob h
              replace h := bd_x (x := x128) rfl h
              replace h := bd_x (x := u129) rfl h
              refine r_callV1 (As := [.int x1, .int x2, .int x121]) (rest := []) (r := 9) (i := 0) C (vX9_seenOf hc127) hR hS (lv0 (by decide) (by decide)) (by decide) ml_X9_360 mw_X9_seenOf rfl ⟨Nat.le_of_ble_eq_true rfl, Nat.le_of_ble_eq_true rfl, Nat.le_of_ble_eq_true rfl, Nat.le_of_ble_eq_true rfl⟩ hl.1 rfl (Nat.le_of_ble_eq_true rfl) dX9_miss_115 (fun H locs hR hS => ?_)
              refine lv_iconst (v := (-1)) hx hb dX9_miss_118 (by decide) ?_
              refine lv_icmp_eq (tgt := 137) hx hb dX9_miss_119 (by decide) (fun c_130 => ?_) (fun c_130 => ?_)
              · rw [if_pos c_130] at h
                refine lv_aload_n hx hb dX9_miss_137 rfl (lv_at hl 1 rfl) ?_
                refine lv_iload_n hx hb dX9_miss_138 rfl (lv_at hl 3 rfl) ?_
                refine lv_iload hx hb dX9_miss_139 (lv_at hl 0 rfl) ?_
                obtain ⟨x132, hc131, h⟩ := ob h
                refine r_callV1 (As := [.int x2, .int x121]) (rest := []) (r := 9) (i := 0) C (vX9_isDropped hc131) hR hS (lv0 (by decide) (by decide)) (by decide) ml_X9_372 mw_X9_isDropped rfl ⟨Nat.le_of_ble_eq_true rfl, Nat.le_of_ble_eq_true rfl, Nat.le_of_ble_eq_true rfl, Nat.le_of_ble_eq_true rfl⟩ hl.1 rfl (Nat.le_of_ble_eq_true rfl) dX9_miss_141 (fun H locs hR hS => ?_)
                refine lv_if_eq (tgt := 149) hx hb dX9_miss_144 (by decide) (fun c_133 => ?_) (fun c_133 => ?_)
                · rw [if_pos c_133] at h
                  refine lv_aload_n hx hb dX9_miss_149 rfl (lv_at hl 1 rfl) ?_
                  refine lv_iload_n hx hb dX9_miss_150 rfl (lv_at hl 3 rfl) ?_
                  refine lv_iload hx hb dX9_miss_151 (lv_at hl 0 rfl) ?_
                  obtain ⟨x135, hc134, h⟩ := ob h
                  refine r_callV1 (As := [.int x2, .int x121]) (rest := []) (r := 9) (i := 0) C (vX9_nearest hc134) hR hS (lv0 (by decide) (by decide)) (by decide) ml_X9_375 mw_X9_nearest rfl ⟨Nat.le_of_ble_eq_true rfl, Nat.le_of_ble_eq_true rfl, Nat.le_of_ble_eq_true rfl, Nat.le_of_ble_eq_true rfl⟩ hl.1 rfl (Nat.le_of_ble_eq_true rfl) dX9_miss_153 (fun H locs hR hS => ?_)
                  refine lv_iload_n hx hb dX9_miss_156 rfl (lv_at hl 4 rfl) ?_
                  refine lv_icmp_lt (tgt := 163) hx hb dX9_miss_157 (by decide) (fun c_136 => ?_) (fun c_136 => ?_)
                  · rw [if_pos c_136] at h
                    refine lv_aload_n hx hb dX9_miss_163 rfl (lv_at hl 1 rfl) ?_
                    refine lv_iload_n hx hb dX9_miss_164 rfl (lv_at hl 3 rfl) ?_
                    refine lv_iload hx hb dX9_miss_165 (lv_at hl 0 rfl) ?_
                    obtain ⟨x138, hc137, h⟩ := ob h
                    refine r_callV1 (As := [.int x2, .int x121]) (rest := []) (r := 9) (i := 0) C (vX9_nearest hc137) hR hS (lv0 (by decide) (by decide)) (by decide) ml_X9_375 mw_X9_nearest rfl ⟨Nat.le_of_ble_eq_true rfl, Nat.le_of_ble_eq_true rfl, Nat.le_of_ble_eq_true rfl, Nat.le_of_ble_eq_true rfl⟩ hl.1 rfl (Nat.le_of_ble_eq_true rfl) dX9_miss_167 (fun H locs hR hS => ?_)
                    refine lv_iconst (v := 2) hx hb dX9_miss_170 (by decide) ?_
                    refine lv_icmp_le (tgt := 178) hx hb dX9_miss_171 (by decide) (fun c_139 => ?_) (fun c_139 => ?_)
                    · rw [if_pos c_139] at h
                      refine lv_iconst (v := 2) hx hb dX9_miss_178 (by decide) ?_
                      cases h
                      exact e_iret C hr hR hS (Nat.le_of_ble_eq_true rfl) (Nat.le_of_ble_eq_true rfl) dX9_miss_179
                    · rw [if_neg c_139] at h
                      refine lv_iconst (v := 1) hx hb dX9_miss_174 (by decide) ?_
                      refine lv_goto (tgt := 179) hx hb dX9_miss_175 (by decide) ?_
                      cases h
                      exact e_iret C hr hR hS (Nat.le_of_ble_eq_true rfl) (Nat.le_of_ble_eq_true rfl) dX9_miss_179
                  · rw [if_neg c_136] at h
                    refine lv_bipush (v := 6) hx hb dX9_miss_160 (by decide) ?_
                    cases h
                    exact e_iret C hr hR hS (Nat.le_of_ble_eq_true rfl) (Nat.le_of_ble_eq_true rfl) dX9_miss_162
                · rw [if_neg c_133] at h
                  refine lv_iconst (v := 5) hx hb dX9_miss_147 (by decide) ?_
                  cases h
                  exact e_iret C hr hR hS (Nat.le_of_ble_eq_true rfl) (Nat.le_of_ble_eq_true rfl) dX9_miss_148
              · rw [if_neg c_130] at h
                refine lv_aload_n hx hb dX9_miss_122 rfl (lv_at hl 1 rfl) ?_
                refine lv_iload_n hx hb dX9_miss_123 rfl (lv_at hl 2 rfl) ?_
                refine lv_iload_n hx hb dX9_miss_124 rfl (lv_at hl 3 rfl) ?_
                obtain ⟨⟨x141, u142⟩, hc140, h⟩ := ob h
                replace h := bd_x (x := x141) rfl h
                replace h := bd_x (x := u142) rfl h
                refine r_callV1 (As := [.int x1, .int x2]) (rest := []) (r := 9) (i := 0) C (vX9_isForgotten hc140) hR hS (lv0 (by decide) (by decide)) (by decide) ml_X9_366 mw_X9_isForgotten rfl ⟨Nat.le_of_ble_eq_true rfl, Nat.le_of_ble_eq_true rfl, Nat.le_of_ble_eq_true rfl, Nat.le_of_ble_eq_true rfl⟩ hl.1 rfl (Nat.le_of_ble_eq_true rfl) dX9_miss_125 (fun H locs hR hS => ?_)
                refine lv_if_eq (tgt := 135) hx hb dX9_miss_128 (by decide) (fun c_143 => ?_) (fun c_143 => ?_)
                · rw [if_pos c_143] at h
                  refine lv_iconst (v := 4) hx hb dX9_miss_135 (by decide) ?_
                  cases h
                  exact e_iret C hr hR hS (Nat.le_of_ble_eq_true rfl) (Nat.le_of_ble_eq_true rfl) dX9_miss_136
                · rw [if_neg c_143] at h
                  refine lv_iconst (v := 3) hx hb dX9_miss_131 (by decide) ?_
                  refine lv_goto (tgt := 136) hx hb dX9_miss_132 (by decide) ?_
                  cases h
                  exact e_iret C hr hR hS (Nat.le_of_ble_eq_true rfl) (Nat.le_of_ble_eq_true rfl) dX9_miss_136
            · rw [if_pos c_126] at h
              refine lv_iconst (v := 0) hx hb dX9_miss_108 (by decide) ?_
              cases h
              exact e_iret C hr hR hS (Nat.le_of_ble_eq_true rfl) (Nat.le_of_ble_eq_true rfl) dX9_miss_109
          · rw [if_neg c_125] at h
            refine lv_aload_n hx hb dX9_miss_83 rfl (lv_at hl 1 rfl) ?_
            refine r_get C hR 9 0 33 (v := .ref (a 80 0)) (lv0 (by decide) (by decide)) (by decide) (by decide) rfl fl_X9_61 dX9_miss_84 ?_
            refine lv_iload_n hx hb dX9_miss_87 rfl (lv_at hl 3 rfl) ?_
            obtain ⟨k144, hk144, h⟩ := ob h
            have hLk144 : k144 < cntS 81 := by have q1 := (ck_in hk144).2.2; have q2 : cntS 81 = 15 := rfl; omega
            refine r_aald C hR 80 0 81 0 6 (lv0 (by decide) (by decide)) (by decide) rfl rfl rfl (fun _ => rfl) rfl hk144 dX9_miss_88 ?_
            refine lv_iconst (v := 2) hx hb dX9_miss_89 (by decide) ?_
            obtain ⟨k145, hk145, h⟩ := ob h
            refine r_ald C hR 81 k144 (lv0 hLk144 (by decide)) (by decide) rfl (fun _ => rfl) rfl hk145 dX9_miss_90 ?_
            refine lv_iconst (v := 1) hx hb dX9_miss_91 (by decide) ?_
            refine lv_icmp_ne (tgt := 100) hx hb dX9_miss_92 (by decide) (fun c_146 => ?_) (fun c_146 => ?_)
            · rw [if_neg c_146] at h
              refine lv_iconst (v := (-1)) hx hb dX9_miss_100 (by decide) ?_
              cases h
              exact e_iret C hr hR hS (Nat.le_of_ble_eq_true rfl) (Nat.le_of_ble_eq_true rfl) dX9_miss_101
            · rw [if_pos c_146] at h
              refine lv_bipush (v := 7) hx hb dX9_miss_95 (by decide) ?_
              refine lv_goto (tgt := 101) hx hb dX9_miss_97 (by decide) ?_
              cases h
              exact e_iret C hr hR hS (Nat.le_of_ble_eq_true rfl) (Nat.le_of_ble_eq_true rfl) dX9_miss_101
        · rw [if_neg c_117] at h
          refine lv_iconst (v := 0) hx hb dX9_miss_57 (by decide) ?_
          cases h
          exact e_iret C hr hR hS (Nat.le_of_ble_eq_true rfl) (Nat.le_of_ble_eq_true rfl) dX9_miss_58
      clear h
      have h := hz
      clear hz
      refine jp_cut h (fun j147 hj147 h => ?_)
      have Kj147 : ∀  (H : Heap) (locs : List Loc) (ls : Array Slot), j147 = some x112 → Rel E a u108 H → va_S (AE E) s.heap H locs → lv_has ls 5 [(0, .ref (a 9 0)), (1, .int x1), (2, .int x2), (3, .int x3)] → W p l e { frames := 11, cells := 0, slots := 0, locals := 275 } s m args below meth c H locs 0 0 (MQ below (QW E a (some (.int out.1)) out.2) args s 0 0 (AE E)) (F0 m 45 ls [.ref (a 9 0)]) := by
        intro  H locs ls h hR hS hl
        replace h := jx0 hj147 h
        refine lv_iconst (v := 1) hx hb dX9_miss_45 (by decide) ?_
        refine lv_goto (tgt := 50) hx hb dX9_miss_46 (by decide) ?_
        cases h
        exact Kj113 _ _ _ hR hS (lv_sub hl [0, 1, 2, 3] rfl)
      refine lv_if_eq (tgt := 45) hx hb dX9_miss_32 (by decide) (fun c_148 => ?_) (fun c_148 => ?_)
      · rw [if_pos c_148] at h
        exact Kj147  _ _ _ h hR hS (lv_sub hl [0, 1, 2, 3] rfl)
      · rw [if_neg c_148] at h
        refine lv_iload_n hx hb dX9_miss_35 rfl (lv_at hl 3 rfl) ?_
        refine lv_iconst (v := 1) hx hb dX9_miss_36 (by decide) ?_
        refine lv_bipush (v := 99) hx hb dX9_miss_37 (by decide) ?_
        obtain ⟨x150, hc149, h⟩ := ob h
        refine r_callS1 (As := [.int x3, .int 1, .int 99]) (rest := [.ref (a 9 0)]) C (vX9_in hc149) hR hS ml_X9_113 ms_X9_in rfl ⟨Nat.le_of_ble_eq_true rfl, Nat.le_of_ble_eq_true rfl, Nat.le_of_ble_eq_true rfl, Nat.le_of_ble_eq_true rfl⟩ hl.1 rfl (Nat.le_of_ble_eq_true rfl) dX9_miss_39 (fun H locs hR hS => ?_)
        refine lv_if_ne (tgt := 49) hx hb dX9_miss_42 (by decide) (fun c_151 => ?_) (fun c_151 => ?_)
        · rw [if_neg c_151] at h
          refine lv_iconst (v := 0) hx hb dX9_miss_49 (by decide) ?_
          cases h
          exact Kj113 _ _ _ hR hS (lv_sub hl [0, 1, 2, 3] rfl)
        · rw [if_pos c_151] at h
          exact Kj147  _ _ _ h hR hS (lv_sub hl [0, 1, 2, 3] rfl)
  clear h
  have h := hz
  clear hz
  refine lv_if_ne (tgt := 18) hx hb dX9_miss_11 (by decide) (fun c_152 => ?_) (fun c_152 => ?_)
  · rw [if_neg c_152] at h
    refine lv_iconst (v := 0) hx hb dX9_miss_18 (by decide) ?_
    cases h
    exact Kj105 _ _ _ hR hS (lv_sub hl [0, 1, 2, 3] rfl)
  · rw [if_pos c_152] at h
    refine lv_iconst (v := 1) hx hb dX9_miss_14 (by decide) ?_
    refine lv_goto (tgt := 19) hx hb dX9_miss_15 (by decide) ?_
    cases h
    exact Kj105 _ _ _ hR hS (lv_sub hl [0, 1, 2, 3] rfl)
set_option maxHeartbeats 4000000 in
set_option maxRecDepth 100000 in
theorem vX9_drawn {l : Launch} {E : EV} {a : Nat → Nat → Nat} {u0 : HS} {x1 : Int32} {x2 : Int32} {x3 : Int32} {x4 : Int32} {out : (Int32 × HS)} (h : mX9_drawn u0 x1 x2 x3 x4 = some out) : Ct l E yX9_drawn cX9_drawn 6 (some .int) 9 228 0 0 a u0 [.ref (a 9 0), .int x1, .int x2, .int x3, .int x4] (some (.int out.1)) out.2 := by
  refine Ct.start (by decide) (Nat.le_of_ble_eq_true rfl) ?_
  intro p e s m args below meth c ls C hr hR hS hl
  have C : Cx E p s m args meth c cX9_drawn 6 RX9 := C
  have hl : lv_has ls 6 [(0, .ref (a 9 0)), (1, .int x1), (2, .int x2), (3, .int x3), (4, .int x4)] := hl
  have hx := C.1
  have hb := C.2.1
  unfold mX9_drawn at h
  refine lv_aload_n hx hb dX9_drawn_0 rfl (lv_at hl 0 rfl) ?_
  refine lv_iconst (v := 0) hx hb dX9_drawn_1 (by decide) ?_
  refine r_putI (ty := .int) C hR hS 9 0 0 (lv0 (by decide) (by decide)) (by decide) (by decide) (fun _ => rfl) fl_X9_76 (by decide) (by decide +kernel) rfl rfl dX9_drawn_2 (fun H locs hR hS => ?_)
  obtain ⟨u101, eu101⟩ : ∃ z : HS, z = wI u0 9 0 0 0 := ⟨_, rfl⟩
  rw [← eu101] at hR
  replace h := bd_x eu101 h
  clear eu101
  refine lv_aload_n hx hb dX9_drawn_5 rfl (lv_at hl 0 rfl) ?_
  refine lv_aload_n hx hb dX9_drawn_6 rfl (lv_at hl 0 rfl) ?_
  refine lv_iload_n hx hb dX9_drawn_7 rfl (lv_at hl 1 rfl) ?_
  obtain ⟨x103, hc102, h⟩ := ob h
  refine r_callV1 (As := [.int x1]) (rest := [.ref (a 9 0)]) (r := 9) (i := 0) C (vX9_isLaw hc102) hR hS (lv0 (by decide) (by decide)) (by decide) ml_X9_357 mw_X9_isLaw rfl ⟨Nat.le_of_ble_eq_true rfl, Nat.le_of_ble_eq_true rfl, Nat.le_of_ble_eq_true rfl, Nat.le_of_ble_eq_true rfl⟩ hl.1 rfl (Nat.le_of_ble_eq_true rfl) dX9_drawn_8 (fun H locs hR hS => ?_)
  obtain ⟨x104, hz, h⟩ := ob h
  have Kj105 : ∀ (H : Heap) (locs : List Loc) (ls : Array Slot), Rel E a u101 H → va_S (AE E) s.heap H locs → lv_has ls 6 [(0, .ref (a 9 0)), (1, .int x1), (2, .int x2), (3, .int x3), (4, .int x4)] → W p l e { frames := 9, cells := 0, slots := 0, locals := 228 } s m args below meth c H locs 0 0 (MQ below (QW E a (some (.int out.1)) out.2) args s 0 0 (AE E)) (F0 m 19 ls [.int x104, .ref (a 9 0)]) := by
    intro H locs ls hR hS hl
    clear hz
    refine lv_iconst (v := 1) hx hb dX9_drawn_19 (by decide) ?_
    obtain ⟨⟨x107, u108⟩, hc106, h⟩ := ob h
    replace h := bd_x (x := x107) rfl h
    replace h := bd_x (x := u108) rfl h
    refine r_callV1 (As := [.int x104, .int 1]) (rest := []) (r := 9) (i := 0) C (vX9_bad hc106) hR hS (lv0 (by decide) (by decide)) (by decide) ml_X9_162 mw_X9_bad rfl ⟨Nat.le_of_ble_eq_true rfl, Nat.le_of_ble_eq_true rfl, Nat.le_of_ble_eq_true rfl, Nat.le_of_ble_eq_true rfl⟩ hl.1 rfl (Nat.le_of_ble_eq_true rfl) dX9_drawn_20 (fun H locs hR hS => ?_)
    refine lv_if_ne (tgt := 57) hx hb dX9_drawn_23 (by decide) (fun c_109 => ?_) (fun c_109 => ?_)
    · rw [if_neg c_109] at h
      refine lv_iconst (v := 0) hx hb dX9_drawn_57 (by decide) ?_
      cases h
      exact e_iret C hr hR hS (Nat.le_of_ble_eq_true rfl) (Nat.le_of_ble_eq_true rfl) dX9_drawn_58
    · rw [if_pos c_109] at h
      refine lv_aload_n hx hb dX9_drawn_26 rfl (lv_at hl 0 rfl) ?_
      refine lv_aload_n hx hb dX9_drawn_27 rfl (lv_at hl 0 rfl) ?_
      refine lv_iload_n hx hb dX9_drawn_28 rfl (lv_at hl 2 rfl) ?_
      obtain ⟨x111, hc110, h⟩ := ob h
      refine r_callV1 (As := [.int x2]) (rest := [.ref (a 9 0)]) (r := 9) (i := 0) C (vX9_isLooker hc110) hR hS (lv0 (by decide) (by decide)) (by decide) ml_X9_295 mw_X9_isLooker rfl ⟨Nat.le_of_ble_eq_true rfl, Nat.le_of_ble_eq_true rfl, Nat.le_of_ble_eq_true rfl, Nat.le_of_ble_eq_true rfl⟩ hl.1 rfl (Nat.le_of_ble_eq_true rfl) dX9_drawn_29 (fun H locs hR hS => ?_)
      obtain ⟨x112, hz, h⟩ := ob h
      have Kj113 : ∀ (H : Heap) (locs : List Loc) (ls : Array Slot), Rel E a u108 H → va_S (AE E) s.heap H locs → lv_has ls 6 [(0, .ref (a 9 0)), (1, .int x1), (2, .int x2), (3, .int x3), (4, .int x4)] → W p l e { frames := 9, cells := 0, slots := 0, locals := 228 } s m args below meth c H locs 0 0 (MQ below (QW E a (some (.int out.1)) out.2) args s 0 0 (AE E)) (F0 m 50 ls [.int x112, .ref (a 9 0)]) := by
        intro H locs ls hR hS hl
        clear hz
        refine lv_iconst (v := 2) hx hb dX9_drawn_50 (by decide) ?_
        obtain ⟨⟨x115, u116⟩, hc114, h⟩ := ob h
        replace h := bd_x (x := x115) rfl h
        replace h := bd_x (x := u116) rfl h
        refine r_callV1 (As := [.int x112, .int 2]) (rest := []) (r := 9) (i := 0) C (vX9_bad hc114) hR hS (lv0 (by decide) (by decide)) (by decide) ml_X9_162 mw_X9_bad rfl ⟨Nat.le_of_ble_eq_true rfl, Nat.le_of_ble_eq_true rfl, Nat.le_of_ble_eq_true rfl, Nat.le_of_ble_eq_true rfl⟩ hl.1 rfl (Nat.le_of_ble_eq_true rfl) dX9_drawn_51 (fun H locs hR hS => ?_)
        refine lv_if_eq (tgt := 59) hx hb dX9_drawn_54 (by decide) (fun c_117 => ?_) (fun c_117 => ?_)
        · rw [if_pos c_117] at h
          refine lv_aload_n hx hb dX9_drawn_59 rfl (lv_at hl 0 rfl) ?_
          refine lv_aload_n hx hb dX9_drawn_60 rfl (lv_at hl 0 rfl) ?_
          refine r_get C hR 9 0 33 (v := .ref (a 80 0)) (lv0 (by decide) (by decide)) (by decide) (by decide) rfl fl_X9_61 dX9_drawn_61 ?_
          refine lv_iload_n hx hb dX9_drawn_64 rfl (lv_at hl 2 rfl) ?_
          obtain ⟨k118, hk118, h⟩ := ob h
          have hLk118 : k118 < cntS 81 := by have q1 := (ck_in hk118).2.2; have q2 : cntS 81 = 15 := rfl; omega
          refine r_aald C hR 80 0 81 0 6 (lv0 (by decide) (by decide)) (by decide) rfl rfl rfl (fun _ => rfl) rfl hk118 dX9_drawn_65 ?_
          refine lv_iconst (v := 0) hx hb dX9_drawn_66 (by decide) ?_
          obtain ⟨k119, hk119, h⟩ := ob h
          refine r_ald C hR 81 k118 (lv0 hLk118 (by decide)) (by decide) rfl (fun _ => rfl) rfl hk119 dX9_drawn_67 ?_
          obtain ⟨x121, hc120, h⟩ := ob h
          refine r_callV1 (As := [.int (gI u116 81 k118 k119)]) (rest := []) (r := 9) (i := 0) C (vX9_oddOf hc120) hR hS (lv0 (by decide) (by decide)) (by decide) ml_X9_263 mw_X9_oddOf rfl ⟨Nat.le_of_ble_eq_true rfl, Nat.le_of_ble_eq_true rfl, Nat.le_of_ble_eq_true rfl, Nat.le_of_ble_eq_true rfl⟩ hl.1 rfl (Nat.le_of_ble_eq_true rfl) dX9_drawn_68 (fun H locs hR hS => ?_)
          refine lv_istore (lv' := [(5, .int x121), (0, .ref (a 9 0)), (1, .int x1), (2, .int x2), (3, .int x3), (4, .int x4)]) hx hb dX9_drawn_71 hl (by decide) rfl (fun ls hl => ?_)
          refine lv_iload hx hb dX9_drawn_73 (lv_at hl 0 rfl) ?_
          refine lv_iconst (v := (-1)) hx hb dX9_drawn_75 (by decide) ?_
          refine lv_icmp_ne (tgt := 81) hx hb dX9_drawn_76 (by decide) (fun c_122 => ?_) (fun c_122 => ?_)
          · rw [if_neg c_122] at h
            refine lv_aload_n hx hb dX9_drawn_81 rfl (lv_at hl 1 rfl) ?_
            refine lv_iload_n hx hb dX9_drawn_82 rfl (lv_at hl 2 rfl) ?_
            refine lv_iload_n hx hb dX9_drawn_83 rfl (lv_at hl 3 rfl) ?_
            refine lv_iload hx hb dX9_drawn_84 (lv_at hl 0 rfl) ?_
            refine lv_iload_n hx hb dX9_drawn_86 rfl (lv_at hl 4 rfl) ?_
            refine lv_iload hx hb dX9_drawn_87 (lv_at hl 5 rfl) ?_
            refine lv_iconst (v := 0) hx hb dX9_drawn_89 (by decide) ?_
            obtain ⟨u124, hc123, h⟩ := ob h
            refine r_callV0 (As := [.int x1, .int x2, .int x121, .int x3, .int x4, .int 0]) (rest := []) (r := 9) (i := 0) C (vX9_goes hc123) hR hS (lv0 (by decide) (by decide)) (by decide) ml_X9_353 mw_X9_goes rfl ⟨Nat.le_of_ble_eq_true rfl, Nat.le_of_ble_eq_true rfl, Nat.le_of_ble_eq_true rfl, Nat.le_of_ble_eq_true rfl⟩ hl.1 rfl (Nat.le_of_ble_eq_true rfl) dX9_drawn_90 (fun H locs hR hS => ?_)
            refine lv_aload_n hx hb dX9_drawn_93 rfl (lv_at hl 1 rfl) ?_
            refine r_get C hR 9 0 41 (v := .int (gI u124 9 0 41)) (lv0 (by decide) (by decide)) (by decide) (by decide) rfl fl_X9_340 dX9_drawn_94 ?_
            cases h
            exact e_iret C hr hR hS (Nat.le_of_ble_eq_true rfl) (Nat.le_of_ble_eq_true rfl) dX9_drawn_97
          · rw [if_pos c_122] at h
            refine lv_iconst (v := (-1)) hx hb dX9_drawn_79 (by decide) ?_
            cases h
            exact e_iret C hr hR hS (Nat.le_of_ble_eq_true rfl) (Nat.le_of_ble_eq_true rfl) dX9_drawn_80
        · rw [if_neg c_117] at h
          refine lv_iconst (v := 0) hx hb dX9_drawn_57 (by decide) ?_
          cases h
          exact e_iret C hr hR hS (Nat.le_of_ble_eq_true rfl) (Nat.le_of_ble_eq_true rfl) dX9_drawn_58
      clear h
      have h := hz
      clear hz
      refine jp_cut h (fun j125 hj125 h => ?_)
      have Kj125 : ∀  (H : Heap) (locs : List Loc) (ls : Array Slot), j125 = some x112 → Rel E a u108 H → va_S (AE E) s.heap H locs → lv_has ls 6 [(0, .ref (a 9 0)), (1, .int x1), (2, .int x2), (3, .int x3), (4, .int x4)] → W p l e { frames := 9, cells := 0, slots := 0, locals := 228 } s m args below meth c H locs 0 0 (MQ below (QW E a (some (.int out.1)) out.2) args s 0 0 (AE E)) (F0 m 45 ls [.ref (a 9 0)]) := by
        intro  H locs ls h hR hS hl
        replace h := jx0 hj125 h
        refine lv_iconst (v := 1) hx hb dX9_drawn_45 (by decide) ?_
        refine lv_goto (tgt := 50) hx hb dX9_drawn_46 (by decide) ?_
        cases h
        exact Kj113 _ _ _ hR hS (lv_sub hl [0, 1, 2, 3, 4] rfl)
      refine lv_if_eq (tgt := 45) hx hb dX9_drawn_32 (by decide) (fun c_126 => ?_) (fun c_126 => ?_)
      · rw [if_pos c_126] at h
        exact Kj125  _ _ _ h hR hS (lv_sub hl [0, 1, 2, 3, 4] rfl)
      · rw [if_neg c_126] at h
        refine lv_iload_n hx hb dX9_drawn_35 rfl (lv_at hl 3 rfl) ?_
        refine lv_iconst (v := 0) hx hb dX9_drawn_36 (by decide) ?_
        refine lv_bipush (v := 50) hx hb dX9_drawn_37 (by decide) ?_
        obtain ⟨x128, hc127, h⟩ := ob h
        refine r_callS1 (As := [.int x3, .int 0, .int 50]) (rest := [.ref (a 9 0)]) C (vX9_in hc127) hR hS ml_X9_113 ms_X9_in rfl ⟨Nat.le_of_ble_eq_true rfl, Nat.le_of_ble_eq_true rfl, Nat.le_of_ble_eq_true rfl, Nat.le_of_ble_eq_true rfl⟩ hl.1 rfl (Nat.le_of_ble_eq_true rfl) dX9_drawn_39 (fun H locs hR hS => ?_)
        refine lv_if_ne (tgt := 49) hx hb dX9_drawn_42 (by decide) (fun c_129 => ?_) (fun c_129 => ?_)
        · rw [if_neg c_129] at h
          refine lv_iconst (v := 0) hx hb dX9_drawn_49 (by decide) ?_
          cases h
          exact Kj113 _ _ _ hR hS (lv_sub hl [0, 1, 2, 3, 4] rfl)
        · rw [if_pos c_129] at h
          exact Kj125  _ _ _ h hR hS (lv_sub hl [0, 1, 2, 3, 4] rfl)
  clear h
  have h := hz
  clear hz
  refine lv_if_ne (tgt := 18) hx hb dX9_drawn_11 (by decide) (fun c_130 => ?_) (fun c_130 => ?_)
  · rw [if_neg c_130] at h
    refine lv_iconst (v := 0) hx hb dX9_drawn_18 (by decide) ?_
    cases h
    exact Kj105 _ _ _ hR hS (lv_sub hl [0, 1, 2, 3, 4] rfl)
  · rw [if_pos c_130] at h
    refine lv_iconst (v := 1) hx hb dX9_drawn_14 (by decide) ?_
    refine lv_goto (tgt := 19) hx hb dX9_drawn_15 (by decide) ?_
    cases h
    exact Kj105 _ _ _ hR hS (lv_sub hl [0, 1, 2, 3, 4] rfl)
set_option maxHeartbeats 4000000 in
set_option maxRecDepth 100000 in
theorem vX9_changeOf {l : Launch} {E : EV} {a : Nat → Nat → Nat} {u0 : HS} {x1 : Int32} {x2 : Int32} {out : (Int32 × HS)} (h : mX9_changeOf u0 x1 x2 = some out) : Ct l E yX9_changeOf cX9_changeOf 4 (some .int) 9 228 0 0 a u0 [.ref (a 9 0), .int x1, .int x2] (some (.int out.1)) out.2 := by
  refine Ct.start (by decide) (Nat.le_of_ble_eq_true rfl) ?_
  intro p e s m args below meth c ls C hr hR hS hl
  have C : Cx E p s m args meth c cX9_changeOf 4 RX9 := C
  have hl : lv_has ls 4 [(0, .ref (a 9 0)), (1, .int x1), (2, .int x2)] := hl
  have hx := C.1
  have hb := C.2.1
  unfold mX9_changeOf at h
  refine lv_aload_n hx hb dX9_changeOf_0 rfl (lv_at hl 0 rfl) ?_
  refine lv_aload_n hx hb dX9_changeOf_1 rfl (lv_at hl 0 rfl) ?_
  refine r_get C hR 9 0 33 (v := .ref (a 80 0)) (lv0 (by decide) (by decide)) (by decide) (by decide) rfl fl_X9_61 dX9_changeOf_2 ?_
  refine lv_iload_n hx hb dX9_changeOf_5 rfl (lv_at hl 2 rfl) ?_
  obtain ⟨k101, hk101, h⟩ := ob h
  have hLk101 : k101 < cntS 81 := by have q1 := (ck_in hk101).2.2; have q2 : cntS 81 = 15 := rfl; omega
  refine r_aald C hR 80 0 81 0 6 (lv0 (by decide) (by decide)) (by decide) rfl rfl rfl (fun _ => rfl) rfl hk101 dX9_changeOf_6 ?_
  refine lv_iconst (v := 0) hx hb dX9_changeOf_7 (by decide) ?_
  obtain ⟨k102, hk102, h⟩ := ob h
  refine r_ald C hR 81 k101 (lv0 hLk101 (by decide)) (by decide) rfl (fun _ => rfl) rfl hk102 dX9_changeOf_8 ?_
  obtain ⟨x104, hc103, h⟩ := ob h
  refine r_callV1 (As := [.int (gI u0 81 k101 k102)]) (rest := []) (r := 9) (i := 0) C (vX9_turnsOf hc103) hR hS (lv0 (by decide) (by decide)) (by decide) ml_X9_266 mw_X9_turnsOf rfl ⟨Nat.le_of_ble_eq_true rfl, Nat.le_of_ble_eq_true rfl, Nat.le_of_ble_eq_true rfl, Nat.le_of_ble_eq_true rfl⟩ hl.1 rfl (Nat.le_of_ble_eq_true rfl) dX9_changeOf_9 (fun H locs hR hS => ?_)
  refine lv_istore_n (lv' := [(3, .int x104), (0, .ref (a 9 0)), (1, .int x1), (2, .int x2)]) hx hb dX9_changeOf_12 rfl hl (by decide) rfl (fun ls hl => ?_)
  refine lv_iload_n hx hb dX9_changeOf_13 rfl (lv_at hl 0 rfl) ?_
  refine lv_iconst (v := (-1)) hx hb dX9_changeOf_14 (by decide) ?_
  refine lv_icmp_ne (tgt := 20) hx hb dX9_changeOf_15 (by decide) (fun c_105 => ?_) (fun c_105 => ?_)
  · rw [if_neg c_105] at h
    refine lv_aload_n hx hb dX9_changeOf_20 rfl (lv_at hl 1 rfl) ?_
    refine lv_iload_n hx hb dX9_changeOf_21 rfl (lv_at hl 2 rfl) ?_
    refine lv_iload_n hx hb dX9_changeOf_22 rfl (lv_at hl 3 rfl) ?_
    refine lv_iload_n hx hb dX9_changeOf_23 rfl (lv_at hl 0 rfl) ?_
    refine lv_iconst (v := 0) hx hb dX9_changeOf_24 (by decide) ?_
    refine lv_iconst (v := 0) hx hb dX9_changeOf_25 (by decide) ?_
    refine lv_iconst (v := 1) hx hb dX9_changeOf_26 (by decide) ?_
    obtain ⟨u107, hc106, h⟩ := ob h
    refine r_callV0 (As := [.int x1, .int x2, .int x104, .int 0, .int 0, .int 1]) (rest := []) (r := 9) (i := 0) C (vX9_goes hc106) hR hS (lv0 (by decide) (by decide)) (by decide) ml_X9_353 mw_X9_goes rfl ⟨Nat.le_of_ble_eq_true rfl, Nat.le_of_ble_eq_true rfl, Nat.le_of_ble_eq_true rfl, Nat.le_of_ble_eq_true rfl⟩ hl.1 rfl (Nat.le_of_ble_eq_true rfl) dX9_changeOf_27 (fun H locs hR hS => ?_)
    refine lv_aload_n hx hb dX9_changeOf_30 rfl (lv_at hl 1 rfl) ?_
    refine r_get C hR 9 0 41 (v := .int (gI u107 9 0 41)) (lv0 (by decide) (by decide)) (by decide) (by decide) rfl fl_X9_340 dX9_changeOf_31 ?_
    cases h
    exact e_iret C hr hR hS (Nat.le_of_ble_eq_true rfl) (Nat.le_of_ble_eq_true rfl) dX9_changeOf_34
  · rw [if_pos c_105] at h
    refine lv_iconst (v := (-1)) hx hb dX9_changeOf_18 (by decide) ?_
    cases h
    exact e_iret C hr hR hS (Nat.le_of_ble_eq_true rfl) (Nat.le_of_ble_eq_true rfl) dX9_changeOf_19
set_option maxHeartbeats 4000000 in
set_option maxRecDepth 100000 in
theorem vX9_change {l : Launch} {E : EV} {a : Nat → Nat → Nat} {u0 : HS} {x1 : Int32} {x2 : Int32} {out : (Int32 × HS)} (h : mX9_change u0 x1 x2 = some out) : Ct l E yX9_change cX9_change 3 (some .int) 10 251 0 0 a u0 [.ref (a 9 0), .int x1, .int x2] (some (.int out.1)) out.2 := by
  refine Ct.start (by decide) (Nat.le_of_ble_eq_true rfl) ?_
  intro p e s m args below meth c ls C hr hR hS hl
  have C : Cx E p s m args meth c cX9_change 3 RX9 := C
  have hl : lv_has ls 3 [(0, .ref (a 9 0)), (1, .int x1), (2, .int x2)] := hl
  have hx := C.1
  have hb := C.2.1
  unfold mX9_change at h
  refine lv_aload_n hx hb dX9_change_0 rfl (lv_at hl 0 rfl) ?_
  refine lv_iconst (v := 0) hx hb dX9_change_1 (by decide) ?_
  refine r_putI (ty := .int) C hR hS 9 0 0 (lv0 (by decide) (by decide)) (by decide) (by decide) (fun _ => rfl) fl_X9_76 (by decide) (by decide +kernel) rfl rfl dX9_change_2 (fun H locs hR hS => ?_)
  obtain ⟨u101, eu101⟩ : ∃ z : HS, z = wI u0 9 0 0 0 := ⟨_, rfl⟩
  rw [← eu101] at hR
  replace h := bd_x eu101 h
  clear eu101
  refine lv_aload_n hx hb dX9_change_5 rfl (lv_at hl 0 rfl) ?_
  refine lv_aload_n hx hb dX9_change_6 rfl (lv_at hl 0 rfl) ?_
  refine lv_iload_n hx hb dX9_change_7 rfl (lv_at hl 1 rfl) ?_
  obtain ⟨x103, hc102, h⟩ := ob h
  refine r_callV1 (As := [.int x1]) (rest := [.ref (a 9 0)]) (r := 9) (i := 0) C (vX9_isLaw hc102) hR hS (lv0 (by decide) (by decide)) (by decide) ml_X9_357 mw_X9_isLaw rfl ⟨Nat.le_of_ble_eq_true rfl, Nat.le_of_ble_eq_true rfl, Nat.le_of_ble_eq_true rfl, Nat.le_of_ble_eq_true rfl⟩ hl.1 rfl (Nat.le_of_ble_eq_true rfl) dX9_change_8 (fun H locs hR hS => ?_)
  obtain ⟨x104, hz, h⟩ := ob h
  have Kj105 : ∀ (H : Heap) (locs : List Loc) (ls : Array Slot), Rel E a u101 H → va_S (AE E) s.heap H locs → lv_has ls 3 [(0, .ref (a 9 0)), (1, .int x1), (2, .int x2)] → W p l e { frames := 10, cells := 0, slots := 0, locals := 251 } s m args below meth c H locs 0 0 (MQ below (QW E a (some (.int out.1)) out.2) args s 0 0 (AE E)) (F0 m 19 ls [.int x104, .ref (a 9 0)]) := by
    intro H locs ls hR hS hl
    clear hz
    refine lv_iconst (v := 1) hx hb dX9_change_19 (by decide) ?_
    obtain ⟨⟨x107, u108⟩, hc106, h⟩ := ob h
    replace h := bd_x (x := x107) rfl h
    replace h := bd_x (x := u108) rfl h
    refine r_callV1 (As := [.int x104, .int 1]) (rest := []) (r := 9) (i := 0) C (vX9_bad hc106) hR hS (lv0 (by decide) (by decide)) (by decide) ml_X9_162 mw_X9_bad rfl ⟨Nat.le_of_ble_eq_true rfl, Nat.le_of_ble_eq_true rfl, Nat.le_of_ble_eq_true rfl, Nat.le_of_ble_eq_true rfl⟩ hl.1 rfl (Nat.le_of_ble_eq_true rfl) dX9_change_20 (fun H locs hR hS => ?_)
    refine lv_if_ne (tgt := 47) hx hb dX9_change_23 (by decide) (fun c_109 => ?_) (fun c_109 => ?_)
    · rw [if_neg c_109] at h
      refine lv_iconst (v := 0) hx hb dX9_change_47 (by decide) ?_
      cases h
      exact e_iret C hr hR hS (Nat.le_of_ble_eq_true rfl) (Nat.le_of_ble_eq_true rfl) dX9_change_48
    · rw [if_pos c_109] at h
      refine lv_aload_n hx hb dX9_change_26 rfl (lv_at hl 0 rfl) ?_
      refine lv_aload_n hx hb dX9_change_27 rfl (lv_at hl 0 rfl) ?_
      refine lv_iload_n hx hb dX9_change_28 rfl (lv_at hl 2 rfl) ?_
      obtain ⟨x111, hc110, h⟩ := ob h
      refine r_callV1 (As := [.int x2]) (rest := [.ref (a 9 0)]) (r := 9) (i := 0) C (vX9_isLooker hc110) hR hS (lv0 (by decide) (by decide)) (by decide) ml_X9_295 mw_X9_isLooker rfl ⟨Nat.le_of_ble_eq_true rfl, Nat.le_of_ble_eq_true rfl, Nat.le_of_ble_eq_true rfl, Nat.le_of_ble_eq_true rfl⟩ hl.1 rfl (Nat.le_of_ble_eq_true rfl) dX9_change_29 (fun H locs hR hS => ?_)
      obtain ⟨x112, hz, h⟩ := ob h
      have Kj113 : ∀ (H : Heap) (locs : List Loc) (ls : Array Slot), Rel E a u108 H → va_S (AE E) s.heap H locs → lv_has ls 3 [(0, .ref (a 9 0)), (1, .int x1), (2, .int x2)] → W p l e { frames := 10, cells := 0, slots := 0, locals := 251 } s m args below meth c H locs 0 0 (MQ below (QW E a (some (.int out.1)) out.2) args s 0 0 (AE E)) (F0 m 40 ls [.int x112, .ref (a 9 0)]) := by
        intro H locs ls hR hS hl
        clear hz
        refine lv_iconst (v := 2) hx hb dX9_change_40 (by decide) ?_
        obtain ⟨⟨x115, u116⟩, hc114, h⟩ := ob h
        replace h := bd_x (x := x115) rfl h
        replace h := bd_x (x := u116) rfl h
        refine r_callV1 (As := [.int x112, .int 2]) (rest := []) (r := 9) (i := 0) C (vX9_bad hc114) hR hS (lv0 (by decide) (by decide)) (by decide) ml_X9_162 mw_X9_bad rfl ⟨Nat.le_of_ble_eq_true rfl, Nat.le_of_ble_eq_true rfl, Nat.le_of_ble_eq_true rfl, Nat.le_of_ble_eq_true rfl⟩ hl.1 rfl (Nat.le_of_ble_eq_true rfl) dX9_change_41 (fun H locs hR hS => ?_)
        refine lv_if_eq (tgt := 49) hx hb dX9_change_44 (by decide) (fun c_117 => ?_) (fun c_117 => ?_)
        · rw [if_pos c_117] at h
          refine lv_aload_n hx hb dX9_change_49 rfl (lv_at hl 0 rfl) ?_
          refine lv_iload_n hx hb dX9_change_50 rfl (lv_at hl 1 rfl) ?_
          refine lv_iload_n hx hb dX9_change_51 rfl (lv_at hl 2 rfl) ?_
          obtain ⟨⟨x119, u120⟩, hc118, h⟩ := ob h
          replace h := bd_x (x := x119) rfl h
          replace h := bd_x (x := u120) rfl h
          refine r_callV1 (As := [.int x1, .int x2]) (rest := []) (r := 9) (i := 0) C (vX9_changeOf hc118) hR hS (lv0 (by decide) (by decide)) (by decide) ml_X9_378 mw_X9_changeOf rfl ⟨Nat.le_of_ble_eq_true rfl, Nat.le_of_ble_eq_true rfl, Nat.le_of_ble_eq_true rfl, Nat.le_of_ble_eq_true rfl⟩ hl.1 rfl (Nat.le_of_ble_eq_true rfl) dX9_change_52 (fun H locs hR hS => ?_)
          cases h
          exact e_iret C hr hR hS (Nat.le_of_ble_eq_true rfl) (Nat.le_of_ble_eq_true rfl) dX9_change_55
        · rw [if_neg c_117] at h
          refine lv_iconst (v := 0) hx hb dX9_change_47 (by decide) ?_
          cases h
          exact e_iret C hr hR hS (Nat.le_of_ble_eq_true rfl) (Nat.le_of_ble_eq_true rfl) dX9_change_48
      clear h
      have h := hz
      clear hz
      refine lv_if_ne (tgt := 39) hx hb dX9_change_32 (by decide) (fun c_121 => ?_) (fun c_121 => ?_)
      · rw [if_neg c_121] at h
        refine lv_iconst (v := 0) hx hb dX9_change_39 (by decide) ?_
        cases h
        exact Kj113 _ _ _ hR hS (lv_sub hl [0, 1, 2] rfl)
      · rw [if_pos c_121] at h
        refine lv_iconst (v := 1) hx hb dX9_change_35 (by decide) ?_
        refine lv_goto (tgt := 40) hx hb dX9_change_36 (by decide) ?_
        cases h
        exact Kj113 _ _ _ hR hS (lv_sub hl [0, 1, 2] rfl)
  clear h
  have h := hz
  clear hz
  refine lv_if_ne (tgt := 18) hx hb dX9_change_11 (by decide) (fun c_122 => ?_) (fun c_122 => ?_)
  · rw [if_neg c_122] at h
    refine lv_iconst (v := 0) hx hb dX9_change_18 (by decide) ?_
    cases h
    exact Kj105 _ _ _ hR hS (lv_sub hl [0, 1, 2] rfl)
  · rw [if_pos c_122] at h
    refine lv_iconst (v := 1) hx hb dX9_change_14 (by decide) ?_
    refine lv_goto (tgt := 19) hx hb dX9_change_15 (by decide) ?_
    cases h
    exact Kj105 _ _ _ hR hS (lv_sub hl [0, 1, 2] rfl)
set_option maxHeartbeats 4000000 in
set_option maxRecDepth 100000 in
theorem vX9_yet {l : Launch} {E : EV} {a : Nat → Nat → Nat} {u0 : HS} {x1 : Int32} {out : (Int32 × HS)} (h : mX9_yet u0 x1 = some out) : Ct l E yX9_yet cX9_yet 5 (some .int) 10 251 0 0 a u0 [.ref (a 9 0), .int x1] (some (.int out.1)) out.2 := by
  refine Ct.start (by decide) (Nat.le_of_ble_eq_true rfl) ?_
  intro p e s m args below meth c ls C hr hR hS hl
  have C : Cx E p s m args meth c cX9_yet 5 RX9 := C
  have hl : lv_has ls 5 [(0, .ref (a 9 0)), (1, .int x1)] := hl
  have hx := C.1
  have hb := C.2.1
  unfold mX9_yet at h
  refine lv_aload_n hx hb dX9_yet_0 rfl (lv_at hl 0 rfl) ?_
  refine lv_iconst (v := 0) hx hb dX9_yet_1 (by decide) ?_
  refine r_putI (ty := .int) C hR hS 9 0 0 (lv0 (by decide) (by decide)) (by decide) (by decide) (fun _ => rfl) fl_X9_76 (by decide) (by decide +kernel) rfl rfl dX9_yet_2 (fun H locs hR hS => ?_)
  obtain ⟨u101, eu101⟩ : ∃ z : HS, z = wI u0 9 0 0 0 := ⟨_, rfl⟩
  rw [← eu101] at hR
  replace h := bd_x eu101 h
  clear eu101
  refine lv_aload_n hx hb dX9_yet_5 rfl (lv_at hl 0 rfl) ?_
  refine lv_aload_n hx hb dX9_yet_6 rfl (lv_at hl 0 rfl) ?_
  refine lv_iload_n hx hb dX9_yet_7 rfl (lv_at hl 1 rfl) ?_
  obtain ⟨x103, hc102, h⟩ := ob h
  refine r_callV1 (As := [.int x1]) (rest := [.ref (a 9 0)]) (r := 9) (i := 0) C (vX9_isLaw hc102) hR hS (lv0 (by decide) (by decide)) (by decide) ml_X9_357 mw_X9_isLaw rfl ⟨Nat.le_of_ble_eq_true rfl, Nat.le_of_ble_eq_true rfl, Nat.le_of_ble_eq_true rfl, Nat.le_of_ble_eq_true rfl⟩ hl.1 rfl (Nat.le_of_ble_eq_true rfl) dX9_yet_8 (fun H locs hR hS => ?_)
  obtain ⟨x104, hz, h⟩ := ob h
  have Kj105 : ∀ (H : Heap) (locs : List Loc) (ls : Array Slot), Rel E a u101 H → va_S (AE E) s.heap H locs → lv_has ls 5 [(0, .ref (a 9 0)), (1, .int x1)] → W p l e { frames := 10, cells := 0, slots := 0, locals := 251 } s m args below meth c H locs 0 0 (MQ below (QW E a (some (.int out.1)) out.2) args s 0 0 (AE E)) (F0 m 19 ls [.int x104, .ref (a 9 0)]) := by
    intro H locs ls hR hS hl
    clear hz
    refine lv_iconst (v := 1) hx hb dX9_yet_19 (by decide) ?_
    obtain ⟨⟨x107, u108⟩, hc106, h⟩ := ob h
    replace h := bd_x (x := x107) rfl h
    replace h := bd_x (x := u108) rfl h
    refine r_callV1 (As := [.int x104, .int 1]) (rest := []) (r := 9) (i := 0) C (vX9_bad hc106) hR hS (lv0 (by decide) (by decide)) (by decide) ml_X9_162 mw_X9_bad rfl ⟨Nat.le_of_ble_eq_true rfl, Nat.le_of_ble_eq_true rfl, Nat.le_of_ble_eq_true rfl, Nat.le_of_ble_eq_true rfl⟩ hl.1 rfl (Nat.le_of_ble_eq_true rfl) dX9_yet_20 (fun H locs hR hS => ?_)
    refine lv_if_eq (tgt := 28) hx hb dX9_yet_23 (by decide) (fun c_109 => ?_) (fun c_109 => ?_)
    · rw [if_pos c_109] at h
      refine lv_iconst (v := 0) hx hb dX9_yet_28 (by decide) ?_
      refine lv_istore_n (lv' := [(2, .int 0), (0, .ref (a 9 0)), (1, .int x1)]) hx hb dX9_yet_29 rfl hl (by decide) rfl (fun ls hl => ?_)
      refine lv_iconst (v := 0) hx hb dX9_yet_30 (by decide) ?_
      refine lv_istore_n (lv' := [(3, .int 0), (2, .int 0), (0, .ref (a 9 0)), (1, .int x1)]) hx hb dX9_yet_31 rfl hl (by decide) rfl (fun ls hl => ?_)
      refine jp_cut h (fun w115 hw115 h => ?_)
      have Kw115 : ∀ (x113 : Int32) (u114 : HS) (H : Heap) (locs : List Loc) (ls : Array Slot), w115 x113 u114 = some out → Rel E a u114 H → va_S (AE E) s.heap H locs → lv_has ls 5 [(2, .int x113)] → W p l e { frames := 10, cells := 0, slots := 0, locals := 251 } s m args below meth c H locs 0 0 (MQ below (QW E a (some (.int out.1)) out.2) args s 0 0 (AE E)) (F0 m 95 ls []) := by
        intro x113 u114 H locs ls h hR hS hl
        replace h := jx2 hw115 h
        refine lv_iload_n hx hb dX9_yet_95 rfl (lv_at hl 0 rfl) ?_
        cases h
        exact e_iret C hr hR hS (Nat.le_of_ble_eq_true rfl) (Nat.le_of_ble_eq_true rfl) dX9_yet_96
      have LP : ∀ (fu : Nat) (x110 : Int32) (x111 : Int32) (u112 : HS) (H : Heap) (locs : List Loc) (ls : Array Slot), mX9_yet_L32 x1 w115 fu x110 x111 u112 = some out → Rel E a u112 H → va_S (AE E) s.heap H locs → lv_has ls 5 [(0, .ref (a 9 0)), (1, .int x1), (2, .int x110), (3, .int x111)] → W p l e { frames := 10, cells := 0, slots := 0, locals := 251 } s m args below meth c H locs 0 0 (MQ below (QW E a (some (.int out.1)) out.2) args s 0 0 (AE E)) (F0 m 32 ls []) := by
        intro fu
        induction fu with
        | zero =>
          intro x110 x111 u112 H locs ls h
          have h2 : (none : Option (Int32 × HS)) = some out := h
          cases h2
        | succ fu ih =>
          intro x110 x111 u112 H locs ls h hR hS hl
          rw [mX9_yet_L32.eq_2] at h
          refine lv_iload_n hx hb dX9_yet_32 rfl (lv_at hl 3 rfl) ?_
          refine lv_aload_n hx hb dX9_yet_33 rfl (lv_at hl 0 rfl) ?_
          refine r_get C hR 9 0 28 (v := .int (gI u112 9 0 28)) (lv0 (by decide) (by decide)) (by decide) (by decide) rfl fl_X9_288 dX9_yet_34 ?_
          refine lv_icmp_ge (tgt := 95) hx hb dX9_yet_37 (by decide) (fun c_116 => ?_) (fun c_116 => ?_)
          · rw [if_pos c_116] at h
            exact Kw115 _ _ _ _ _ h hR hS (lv_sub hl [2] rfl)
          · rw [if_neg c_116] at h
            refine lv_aload_n hx hb dX9_yet_40 rfl (lv_at hl 0 rfl) ?_
            refine lv_aload_n hx hb dX9_yet_41 rfl (lv_at hl 0 rfl) ?_
            refine r_get C hR 9 0 33 (v := .ref (a 80 0)) (lv0 (by decide) (by decide)) (by decide) (by decide) rfl fl_X9_61 dX9_yet_42 ?_
            refine lv_iload_n hx hb dX9_yet_45 rfl (lv_at hl 3 rfl) ?_
            obtain ⟨k117, hk117, h⟩ := ob h
            have hLk117 : k117 < cntS 81 := by have q1 := (ck_in hk117).2.2; have q2 : cntS 81 = 15 := rfl; omega
            refine r_aald C hR 80 0 81 0 6 (lv0 (by decide) (by decide)) (by decide) rfl rfl rfl (fun _ => rfl) rfl hk117 dX9_yet_46 ?_
            refine lv_iconst (v := 0) hx hb dX9_yet_47 (by decide) ?_
            obtain ⟨k118, hk118, h⟩ := ob h
            refine r_ald C hR 81 k117 (lv0 hLk117 (by decide)) (by decide) rfl (fun _ => rfl) rfl hk118 dX9_yet_48 ?_
            obtain ⟨x120, hc119, h⟩ := ob h
            refine r_callV1 (As := [.int (gI u112 81 k117 k118)]) (rest := []) (r := 9) (i := 0) C (vX9_oddOf hc119) hR hS (lv0 (by decide) (by decide)) (by decide) ml_X9_263 mw_X9_oddOf rfl ⟨Nat.le_of_ble_eq_true rfl, Nat.le_of_ble_eq_true rfl, Nat.le_of_ble_eq_true rfl, Nat.le_of_ble_eq_true rfl⟩ hl.1 rfl (Nat.le_of_ble_eq_true rfl) dX9_yet_49 (fun H locs hR hS => ?_)
            refine lv_istore (lv' := [(4, .int x120), (0, .ref (a 9 0)), (1, .int x1), (2, .int x110), (3, .int x111)]) hx hb dX9_yet_52 hl (by decide) rfl (fun ls hl => ?_)
            refine lv_iload hx hb dX9_yet_54 (lv_at hl 0 rfl) ?_
            refine lv_iconst (v := (-1)) hx hb dX9_yet_56 (by decide) ?_
            refine jp_cut h (fun j123 hj123 h => ?_)
            have Kj123 : ∀ (x121 : Int32) (u122 : HS) (H : Heap) (locs : List Loc) (ls : Array Slot), j123 x121 u122 = some out → Rel E a u122 H → va_S (AE E) s.heap H locs → lv_has ls 5 [(0, .ref (a 9 0)), (1, .int x1), (2, .int x121), (3, .int x111)] → W p l e { frames := 10, cells := 0, slots := 0, locals := 251 } s m args below meth c H locs 0 0 (MQ below (QW E a (some (.int out.1)) out.2) args s 0 0 (AE E)) (F0 m 89 ls []) := by
              intro x121 u122 H locs ls h hR hS hl
              replace h := jx2 hj123 h
              obtain ⟨x124, ex124⟩ : ∃ z : Int32, z = x111 + 1 := ⟨_, rfl⟩
              replace h := bd_x ex124 h
              refine lv_iinc (v := x124) (lv' := [(3, .int x124), (0, .ref (a 9 0)), (1, .int x1), (2, .int x121)]) hx hb dX9_yet_89 hl (k := 3) rfl (by rw [ex124]; rfl) (by decide) rfl (fun ls hl => ?_)
              refine lv_goto (tgt := 32) hx hb dX9_yet_92 (by decide) ?_
              exact ih _ _ _ _ _ _ h hR hS (lv_sub hl [1, 2, 3, 0] rfl)
            refine lv_icmp_eq (tgt := 89) hx hb dX9_yet_57 (by decide) (fun c_125 => ?_) (fun c_125 => ?_)
            · rw [if_pos c_125] at h
              exact Kj123 _ _ _ _ _ h hR hS (lv_sub hl [1, 2, 3, 4] rfl)
            · rw [if_neg c_125] at h
              refine lv_aload_n hx hb dX9_yet_60 rfl (lv_at hl 1 rfl) ?_
              refine lv_iload_n hx hb dX9_yet_61 rfl (lv_at hl 4 rfl) ?_
              refine lv_iload hx hb dX9_yet_62 (lv_at hl 0 rfl) ?_
              obtain ⟨x127, hc126, h⟩ := ob h
              refine r_callV1 (As := [.int x111, .int x120]) (rest := []) (r := 9) (i := 0) C (vX9_nearest hc126) hR hS (lv0 (by decide) (by decide)) (by decide) ml_X9_375 mw_X9_nearest rfl ⟨Nat.le_of_ble_eq_true rfl, Nat.le_of_ble_eq_true rfl, Nat.le_of_ble_eq_true rfl, Nat.le_of_ble_eq_true rfl⟩ hl.1 rfl (Nat.le_of_ble_eq_true rfl) dX9_yet_64 (fun H locs hR hS => ?_)
              refine lv_iconst (v := 2) hx hb dX9_yet_67 (by decide) ?_
              refine lv_icmp_gt (tgt := 89) hx hb dX9_yet_68 (by decide) (fun c_128 => ?_) (fun c_128 => ?_)
              · rw [if_pos c_128] at h
                exact Kj123 _ _ _ _ _ h hR hS (lv_sub hl [1, 2, 3, 4] rfl)
              · rw [if_neg c_128] at h
                refine lv_aload_n hx hb dX9_yet_71 rfl (lv_at hl 1 rfl) ?_
                refine lv_iload_n hx hb dX9_yet_72 rfl (lv_at hl 2 rfl) ?_
                refine lv_iload_n hx hb dX9_yet_73 rfl (lv_at hl 4 rfl) ?_
                refine lv_iload hx hb dX9_yet_74 (lv_at hl 0 rfl) ?_
                obtain ⟨⟨x130, u131⟩, hc129, h⟩ := ob h
                replace h := bd_x (x := x130) rfl h
                replace h := bd_x (x := u131) rfl h
                refine r_callV1 (As := [.int x1, .int x111, .int x120]) (rest := []) (r := 9) (i := 0) C (vX9_seenOf hc129) hR hS (lv0 (by decide) (by decide)) (by decide) ml_X9_360 mw_X9_seenOf rfl ⟨Nat.le_of_ble_eq_true rfl, Nat.le_of_ble_eq_true rfl, Nat.le_of_ble_eq_true rfl, Nat.le_of_ble_eq_true rfl⟩ hl.1 rfl (Nat.le_of_ble_eq_true rfl) dX9_yet_76 (fun H locs hR hS => ?_)
                refine lv_iconst (v := (-1)) hx hb dX9_yet_79 (by decide) ?_
                refine lv_icmp_ne (tgt := 89) hx hb dX9_yet_80 (by decide) (fun c_132 => ?_) (fun c_132 => ?_)
                · rw [if_neg c_132] at h
                  exact Kj123 _ _ _ _ _ h hR hS (lv_sub hl [1, 2, 3, 4] rfl)
                · rw [if_pos c_132] at h
                  refine lv_iload_n hx hb dX9_yet_83 rfl (lv_at hl 3 rfl) ?_
                  refine lv_iconst (v := 1) hx hb dX9_yet_84 (by decide) ?_
                  refine lv_iload_n hx hb dX9_yet_85 rfl (lv_at hl 4 rfl) ?_
                  refine lv_ishl hx hb dX9_yet_86 ?_
                  refine lv_ior hx hb dX9_yet_87 ?_
                  refine lv_topi (fun x133 ex133 => ?_)
                  replace h := bd_x ex133 h
                  refine lv_istore_n (lv' := [(2, .int x133), (4, .int x120), (0, .ref (a 9 0)), (1, .int x1), (3, .int x111)]) hx hb dX9_yet_88 rfl hl (by decide) rfl (fun ls hl => ?_)
                  exact Kj123 _ _ _ _ _ h hR hS (lv_sub hl [2, 3, 0, 4] rfl)
      exact LP FU _ _ _ _ _ _ h hR hS (lv_sub hl [2, 3, 1, 0] rfl)
    · rw [if_neg c_109] at h
      refine lv_iconst (v := 0) hx hb dX9_yet_26 (by decide) ?_
      cases h
      exact e_iret C hr hR hS (Nat.le_of_ble_eq_true rfl) (Nat.le_of_ble_eq_true rfl) dX9_yet_27
  clear h
  have h := hz
  clear hz
  refine lv_if_ne (tgt := 18) hx hb dX9_yet_11 (by decide) (fun c_134 => ?_) (fun c_134 => ?_)
  · rw [if_neg c_134] at h
    refine lv_iconst (v := 0) hx hb dX9_yet_18 (by decide) ?_
    cases h
    exact Kj105 _ _ _ hR hS (lv_sub hl [0, 1] rfl)
  · rw [if_pos c_134] at h
    refine lv_iconst (v := 1) hx hb dX9_yet_14 (by decide) ?_
    refine lv_goto (tgt := 19) hx hb dX9_yet_15 (by decide) ?_
    cases h
    exact Kj105 _ _ _ hR hS (lv_sub hl [0, 1] rfl)
set_option maxHeartbeats 4000000 in
set_option maxRecDepth 100000 in
theorem vX9_least {l : Launch} {E : EV} {a : Nat → Nat → Nat} {u0 : HS} {x1 : Int32} {x2 : Int32} {x3 : Int32} {out : (Int32 × HS)} (h : mX9_least u0 x1 x2 x3 = some out) : Ct l E yX9_least cX9_least 7 (some .int) 10 251 0 0 a u0 [.ref (a 9 0), .int x1, .int x2, .int x3] (some (.int out.1)) out.2 := by
  refine Ct.start (by decide) (Nat.le_of_ble_eq_true rfl) ?_
  intro p e s m args below meth c ls C hr hR hS hl
  have C : Cx E p s m args meth c cX9_least 7 RX9 := C
  have hl : lv_has ls 7 [(0, .ref (a 9 0)), (1, .int x1), (2, .int x2), (3, .int x3)] := hl
  have hx := C.1
  have hb := C.2.1
  unfold mX9_least at h
  refine lv_aload_n hx hb dX9_least_0 rfl (lv_at hl 0 rfl) ?_
  refine lv_iconst (v := 0) hx hb dX9_least_1 (by decide) ?_
  refine r_putI (ty := .int) C hR hS 9 0 0 (lv0 (by decide) (by decide)) (by decide) (by decide) (fun _ => rfl) fl_X9_76 (by decide) (by decide +kernel) rfl rfl dX9_least_2 (fun H locs hR hS => ?_)
  obtain ⟨u101, eu101⟩ : ∃ z : HS, z = wI u0 9 0 0 0 := ⟨_, rfl⟩
  rw [← eu101] at hR
  replace h := bd_x eu101 h
  clear eu101
  refine lv_aload_n hx hb dX9_least_5 rfl (lv_at hl 0 rfl) ?_
  refine lv_aload_n hx hb dX9_least_6 rfl (lv_at hl 0 rfl) ?_
  refine lv_iload_n hx hb dX9_least_7 rfl (lv_at hl 1 rfl) ?_
  obtain ⟨x103, hc102, h⟩ := ob h
  refine r_callV1 (As := [.int x1]) (rest := [.ref (a 9 0)]) (r := 9) (i := 0) C (vX9_isLaw hc102) hR hS (lv0 (by decide) (by decide)) (by decide) ml_X9_357 mw_X9_isLaw rfl ⟨Nat.le_of_ble_eq_true rfl, Nat.le_of_ble_eq_true rfl, Nat.le_of_ble_eq_true rfl, Nat.le_of_ble_eq_true rfl⟩ hl.1 rfl (Nat.le_of_ble_eq_true rfl) dX9_least_8 (fun H locs hR hS => ?_)
  obtain ⟨x104, hz, h⟩ := ob h
  have Kj105 : ∀ (H : Heap) (locs : List Loc) (ls : Array Slot), Rel E a u101 H → va_S (AE E) s.heap H locs → lv_has ls 7 [(0, .ref (a 9 0)), (1, .int x1), (2, .int x2), (3, .int x3)] → W p l e { frames := 10, cells := 0, slots := 0, locals := 251 } s m args below meth c H locs 0 0 (MQ below (QW E a (some (.int out.1)) out.2) args s 0 0 (AE E)) (F0 m 19 ls [.int x104, .ref (a 9 0)]) := by
    intro H locs ls hR hS hl
    clear hz
    refine lv_iconst (v := 1) hx hb dX9_least_19 (by decide) ?_
    obtain ⟨⟨x107, u108⟩, hc106, h⟩ := ob h
    replace h := bd_x (x := x107) rfl h
    replace h := bd_x (x := u108) rfl h
    refine r_callV1 (As := [.int x104, .int 1]) (rest := []) (r := 9) (i := 0) C (vX9_bad hc106) hR hS (lv0 (by decide) (by decide)) (by decide) ml_X9_162 mw_X9_bad rfl ⟨Nat.le_of_ble_eq_true rfl, Nat.le_of_ble_eq_true rfl, Nat.le_of_ble_eq_true rfl, Nat.le_of_ble_eq_true rfl⟩ hl.1 rfl (Nat.le_of_ble_eq_true rfl) dX9_least_20 (fun H locs hR hS => ?_)
    refine lv_if_ne (tgt := 56) hx hb dX9_least_23 (by decide) (fun c_109 => ?_) (fun c_109 => ?_)
    · rw [if_neg c_109] at h
      refine lv_iconst (v := 0) hx hb dX9_least_56 (by decide) ?_
      cases h
      exact e_iret C hr hR hS (Nat.le_of_ble_eq_true rfl) (Nat.le_of_ble_eq_true rfl) dX9_least_57
    · rw [if_pos c_109] at h
      refine lv_aload_n hx hb dX9_least_26 rfl (lv_at hl 0 rfl) ?_
      refine lv_aload_n hx hb dX9_least_27 rfl (lv_at hl 0 rfl) ?_
      refine lv_iload_n hx hb dX9_least_28 rfl (lv_at hl 2 rfl) ?_
      obtain ⟨x111, hc110, h⟩ := ob h
      refine r_callV1 (As := [.int x2]) (rest := [.ref (a 9 0)]) (r := 9) (i := 0) C (vX9_isLooker hc110) hR hS (lv0 (by decide) (by decide)) (by decide) ml_X9_295 mw_X9_isLooker rfl ⟨Nat.le_of_ble_eq_true rfl, Nat.le_of_ble_eq_true rfl, Nat.le_of_ble_eq_true rfl, Nat.le_of_ble_eq_true rfl⟩ hl.1 rfl (Nat.le_of_ble_eq_true rfl) dX9_least_29 (fun H locs hR hS => ?_)
      obtain ⟨x112, hz, h⟩ := ob h
      have Kj113 : ∀ (H : Heap) (locs : List Loc) (ls : Array Slot), Rel E a u108 H → va_S (AE E) s.heap H locs → lv_has ls 7 [(0, .ref (a 9 0)), (1, .int x1), (2, .int x2), (3, .int x3)] → W p l e { frames := 10, cells := 0, slots := 0, locals := 251 } s m args below meth c H locs 0 0 (MQ below (QW E a (some (.int out.1)) out.2) args s 0 0 (AE E)) (F0 m 49 ls [.int x112, .ref (a 9 0)]) := by
        intro H locs ls hR hS hl
        clear hz
        refine lv_iconst (v := 2) hx hb dX9_least_49 (by decide) ?_
        obtain ⟨⟨x115, u116⟩, hc114, h⟩ := ob h
        replace h := bd_x (x := x115) rfl h
        replace h := bd_x (x := u116) rfl h
        refine r_callV1 (As := [.int x112, .int 2]) (rest := []) (r := 9) (i := 0) C (vX9_bad hc114) hR hS (lv0 (by decide) (by decide)) (by decide) ml_X9_162 mw_X9_bad rfl ⟨Nat.le_of_ble_eq_true rfl, Nat.le_of_ble_eq_true rfl, Nat.le_of_ble_eq_true rfl, Nat.le_of_ble_eq_true rfl⟩ hl.1 rfl (Nat.le_of_ble_eq_true rfl) dX9_least_50 (fun H locs hR hS => ?_)
        refine lv_if_eq (tgt := 58) hx hb dX9_least_53 (by decide) (fun c_117 => ?_) (fun c_117 => ?_)
        · rw [if_pos c_117] at h
          refine lv_aload_n hx hb dX9_least_58 rfl (lv_at hl 0 rfl) ?_
          refine lv_aload_n hx hb dX9_least_59 rfl (lv_at hl 0 rfl) ?_
          refine r_get C hR 9 0 33 (v := .ref (a 80 0)) (lv0 (by decide) (by decide)) (by decide) (by decide) rfl fl_X9_61 dX9_least_60 ?_
          refine lv_iload_n hx hb dX9_least_63 rfl (lv_at hl 2 rfl) ?_
          obtain ⟨k118, hk118, h⟩ := ob h
          have hLk118 : k118 < cntS 81 := by have q1 := (ck_in hk118).2.2; have q2 : cntS 81 = 15 := rfl; omega
          refine r_aald C hR 80 0 81 0 6 (lv0 (by decide) (by decide)) (by decide) rfl rfl rfl (fun _ => rfl) rfl hk118 dX9_least_64 ?_
          refine lv_iconst (v := 0) hx hb dX9_least_65 (by decide) ?_
          obtain ⟨k119, hk119, h⟩ := ob h
          refine r_ald C hR 81 k118 (lv0 hLk118 (by decide)) (by decide) rfl (fun _ => rfl) rfl hk119 dX9_least_66 ?_
          obtain ⟨x121, hc120, h⟩ := ob h
          refine r_callV1 (As := [.int (gI u116 81 k118 k119)]) (rest := []) (r := 9) (i := 0) C (vX9_oddOf hc120) hR hS (lv0 (by decide) (by decide)) (by decide) ml_X9_263 mw_X9_oddOf rfl ⟨Nat.le_of_ble_eq_true rfl, Nat.le_of_ble_eq_true rfl, Nat.le_of_ble_eq_true rfl, Nat.le_of_ble_eq_true rfl⟩ hl.1 rfl (Nat.le_of_ble_eq_true rfl) dX9_least_67 (fun H locs hR hS => ?_)
          refine lv_istore (lv' := [(4, .int x121), (0, .ref (a 9 0)), (1, .int x1), (2, .int x2), (3, .int x3)]) hx hb dX9_least_70 hl (by decide) rfl (fun ls hl => ?_)
          refine lv_iconst (v := (-1)) hx hb dX9_least_72 (by decide) ?_
          refine lv_istore (lv' := [(5, .int (-1)), (4, .int x121), (0, .ref (a 9 0)), (1, .int x1), (2, .int x2), (3, .int x3)]) hx hb dX9_least_73 hl (by decide) rfl (fun ls hl => ?_)
          refine lv_iload_n hx hb dX9_least_75 rfl (lv_at hl 5 rfl) ?_
          refine lv_iconst (v := 1) hx hb dX9_least_76 (by decide) ?_
          obtain ⟨x122, hz, h⟩ := ob h
          have Kj123 : ∀ (H : Heap) (locs : List Loc) (ls : Array Slot), Rel E a u116 H → va_S (AE E) s.heap H locs → lv_has ls 7 [(0, .ref (a 9 0)), (1, .int x1), (2, .int x2), (3, .int x3), (4, .int x121), (5, .int (-1))] → W p l e { frames := 10, cells := 0, slots := 0, locals := 251 } s m args below meth c H locs 0 0 (MQ below (QW E a (some (.int out.1)) out.2) args s 0 0 (AE E)) (F0 m 85 ls [.int x122]) := by
            intro H locs ls hR hS hl
            clear hz
            refine lv_istore (lv' := [(6, .int x122), (0, .ref (a 9 0)), (1, .int x1), (2, .int x2), (3, .int x3), (4, .int x121), (5, .int (-1))]) hx hb dX9_least_85 hl (by decide) rfl (fun ls hl => ?_)
            refine jp_cut h (fun w129 hw129 h => ?_)
            have Kw129 : ∀ (x127 : Int32) (u128 : HS) (H : Heap) (locs : List Loc) (ls : Array Slot), w129 x127 u128 = some out → Rel E a u128 H → va_S (AE E) s.heap H locs → lv_has ls 7 [(0, .ref (a 9 0)), (5, .int x127)] → W p l e { frames := 10, cells := 0, slots := 0, locals := 251 } s m args below meth c H locs 0 0 (MQ below (QW E a (some (.int out.1)) out.2) args s 0 0 (AE E)) (F0 m 186 ls []) := by
              intro x127 u128 H locs ls h hR hS hl
              replace h := jx2 hw129 h
              refine lv_aload_n hx hb dX9_least_186 rfl (lv_at hl 0 rfl) ?_
              refine lv_iconst (v := 0) hx hb dX9_least_187 (by decide) ?_
              refine r_putI (ty := .int) C hR hS 9 0 38 (lv0 (by decide) (by decide)) (by decide) (by decide) (fun _ => rfl) fl_X9_320 (by decide) (by decide +kernel) rfl rfl dX9_least_188 (fun H locs hR hS => ?_)
              obtain ⟨u130, eu130⟩ : ∃ z : HS, z = wI u128 9 0 38 0 := ⟨_, rfl⟩
              rw [← eu130] at hR
              replace h := bd_x eu130 h
              clear eu130
              refine lv_aload_n hx hb dX9_least_191 rfl (lv_at hl 0 rfl) ?_
              refine lv_iconst (v := 0) hx hb dX9_least_192 (by decide) ?_
              refine r_putI (ty := .int) C hR hS 9 0 39 (lv0 (by decide) (by decide)) (by decide) (by decide) (fun _ => rfl) fl_X9_314 (by decide) (by decide +kernel) rfl rfl dX9_least_193 (fun H locs hR hS => ?_)
              obtain ⟨u131, eu131⟩ : ∃ z : HS, z = wI u130 9 0 39 0 := ⟨_, rfl⟩
              rw [← eu131] at hR
              replace h := bd_x eu131 h
              clear eu131
              refine lv_aload_n hx hb dX9_least_196 rfl (lv_at hl 0 rfl) ?_
              refine lv_iconst (v := 1) hx hb dX9_least_197 (by decide) ?_
              refine r_putI (ty := .int) C hR hS 9 0 40 (lv0 (by decide) (by decide)) (by decide) (by decide) (fun _ => rfl) fl_X9_73 (by decide) (by decide +kernel) rfl rfl dX9_least_198 (fun H locs hR hS => ?_)
              obtain ⟨u132, eu132⟩ : ∃ z : HS, z = wI u131 9 0 40 1 := ⟨_, rfl⟩
              rw [← eu132] at hR
              replace h := bd_x eu132 h
              clear eu132
              refine lv_iload hx hb dX9_least_201 (lv_at hl 1 rfl) ?_
              cases h
              exact e_iret C hr hR hS (Nat.le_of_ble_eq_true rfl) (Nat.le_of_ble_eq_true rfl) dX9_least_203
            have LP : ∀ (fu : Nat) (x124 : Int32) (x125 : Int32) (u126 : HS) (H : Heap) (locs : List Loc) (ls : Array Slot), mX9_least_L87 x121 x3 x1 x2 w129 fu x124 x125 u126 = some out → Rel E a u126 H → va_S (AE E) s.heap H locs → lv_has ls 7 [(0, .ref (a 9 0)), (1, .int x1), (2, .int x2), (3, .int x3), (4, .int x121), (5, .int x124), (6, .int x125)] → W p l e { frames := 10, cells := 0, slots := 0, locals := 251 } s m args below meth c H locs 0 0 (MQ below (QW E a (some (.int out.1)) out.2) args s 0 0 (AE E)) (F0 m 87 ls []) := by
              intro fu
              induction fu with
              | zero =>
                intro x124 x125 u126 H locs ls h
                have h2 : (none : Option (Int32 × HS)) = some out := h
                cases h2
              | succ fu ih =>
                intro x124 x125 u126 H locs ls h hR hS hl
                rw [mX9_least_L87.eq_2] at h
                refine lv_iload hx hb dX9_least_87 (lv_at hl 4 rfl) ?_
                refine lv_iconst (v := (-1)) hx hb dX9_least_89 (by decide) ?_
                refine lv_icmp_eq (tgt := 186) hx hb dX9_least_90 (by decide) (fun c_133 => ?_) (fun c_133 => ?_)
                · rw [if_pos c_133] at h
                  exact Kw129 _ _ _ _ _ h hR hS (lv_sub hl [0, 5] rfl)
                · rw [if_neg c_133] at h
                  refine lv_iload hx hb dX9_least_93 (lv_at hl 5 rfl) ?_
                  refine lv_iconst (v := (-1)) hx hb dX9_least_95 (by decide) ?_
                  refine lv_icmp_ne (tgt := 186) hx hb dX9_least_96 (by decide) (fun c_134 => ?_) (fun c_134 => ?_)
                  · rw [if_neg c_134] at h
                    exact Kw129 _ _ _ _ _ h hR hS (lv_sub hl [0, 5] rfl)
                  · rw [if_pos c_134] at h
                    refine lv_iload hx hb dX9_least_99 (lv_at hl 6 rfl) ?_
                    refine lv_iload_n hx hb dX9_least_101 rfl (lv_at hl 3 rfl) ?_
                    refine lv_iconst (v := 1) hx hb dX9_least_102 (by decide) ?_
                    obtain ⟨x135, hz, h⟩ := ob h
                    have Kj136 : ∀ (H : Heap) (locs : List Loc) (ls : Array Slot), Rel E a u126 H → va_S (AE E) s.heap H locs → lv_has ls 7 [(0, .ref (a 9 0)), (1, .int x1), (2, .int x2), (3, .int x3), (4, .int x121), (5, .int x124), (6, .int x125)] → W p l e { frames := 10, cells := 0, slots := 0, locals := 251 } s m args below meth c H locs 0 0 (MQ below (QW E a (some (.int out.1)) out.2) args s 0 0 (AE E)) (F0 m 113 ls [.int x135, .int x125]) := by
                      intro H locs ls hR hS hl
                      clear hz
                      refine lv_icmp_gt (tgt := 186) hx hb dX9_least_113 (by decide) (fun c_137 => ?_) (fun c_137 => ?_)
                      · rw [if_pos c_137] at h
                        exact Kw129 _ _ _ _ _ h hR hS (lv_sub hl [0, 5] rfl)
                      · rw [if_neg c_137] at h
                        refine lv_aload_n hx hb dX9_least_116 rfl (lv_at hl 0 rfl) ?_
                        refine lv_iload_n hx hb dX9_least_117 rfl (lv_at hl 3 rfl) ?_
                        obtain ⟨x138, hz, h⟩ := ob h
                        have Kj139 : ∀ (H : Heap) (locs : List Loc) (ls : Array Slot), Rel E a u126 H → va_S (AE E) s.heap H locs → lv_has ls 7 [(0, .ref (a 9 0)), (1, .int x1), (2, .int x2), (3, .int x3), (4, .int x121), (6, .int x125)] → W p l e { frames := 10, cells := 0, slots := 0, locals := 251 } s m args below meth c H locs 0 0 (MQ below (QW E a (some (.int out.1)) out.2) args s 0 0 (AE E)) (F0 m 127 ls [.int x138, .ref (a 9 0)]) := by
                          intro H locs ls hR hS hl
                          clear hz
                          refine r_putI (ty := .int) C hR hS 9 0 38 (lv0 (by decide) (by decide)) (by decide) (by decide) (fun _ => rfl) fl_X9_320 (by decide) (by decide +kernel) rfl rfl dX9_least_127 (fun H locs hR hS => ?_)
                          obtain ⟨u140, eu140⟩ : ∃ z : HS, z = wI u126 9 0 38 x138 := ⟨_, rfl⟩
                          rw [← eu140] at hR
                          replace h := bd_x eu140 h
                          clear eu140
                          refine lv_aload_n hx hb dX9_least_130 rfl (lv_at hl 0 rfl) ?_
                          refine lv_iload_n hx hb dX9_least_131 rfl (lv_at hl 3 rfl) ?_
                          refine lv_iconst (v := 1) hx hb dX9_least_132 (by decide) ?_
                          obtain ⟨x141, hz, h⟩ := ob h
                          have Kj142 : ∀ (H : Heap) (locs : List Loc) (ls : Array Slot), Rel E a u140 H → va_S (AE E) s.heap H locs → lv_has ls 7 [(0, .ref (a 9 0)), (1, .int x1), (2, .int x2), (3, .int x3), (4, .int x121), (6, .int x125)] → W p l e { frames := 10, cells := 0, slots := 0, locals := 251 } s m args below meth c H locs 0 0 (MQ below (QW E a (some (.int out.1)) out.2) args s 0 0 (AE E)) (F0 m 142 ls [.int x141, .ref (a 9 0)]) := by
                            intro H locs ls hR hS hl
                            clear hz
                            refine r_putI (ty := .int) C hR hS 9 0 39 (lv0 (by decide) (by decide)) (by decide) (by decide) (fun _ => rfl) fl_X9_314 (by decide) (by decide +kernel) rfl rfl dX9_least_142 (fun H locs hR hS => ?_)
                            obtain ⟨u143, eu143⟩ : ∃ z : HS, z = wI u140 9 0 39 x141 := ⟨_, rfl⟩
                            rw [← eu143] at hR
                            replace h := bd_x eu143 h
                            clear eu143
                            refine lv_aload_n hx hb dX9_least_145 rfl (lv_at hl 0 rfl) ?_
                            refine lv_iload_n hx hb dX9_least_146 rfl (lv_at hl 3 rfl) ?_
                            refine lv_iconst (v := 2) hx hb dX9_least_147 (by decide) ?_
                            obtain ⟨x144, hz, h⟩ := ob h
                            have Kj145 : ∀ (H : Heap) (locs : List Loc) (ls : Array Slot), Rel E a u143 H → va_S (AE E) s.heap H locs → lv_has ls 7 [(0, .ref (a 9 0)), (1, .int x1), (2, .int x2), (3, .int x3), (4, .int x121), (6, .int x125)] → W p l e { frames := 10, cells := 0, slots := 0, locals := 251 } s m args below meth c H locs 0 0 (MQ below (QW E a (some (.int out.1)) out.2) args s 0 0 (AE E)) (F0 m 157 ls [.int x144, .ref (a 9 0)]) := by
                              intro H locs ls hR hS hl
                              clear hz
                              refine r_putI (ty := .int) C hR hS 9 0 40 (lv0 (by decide) (by decide)) (by decide) (by decide) (fun _ => rfl) fl_X9_73 (by decide) (by decide +kernel) rfl rfl dX9_least_157 (fun H locs hR hS => ?_)
                              obtain ⟨u146, eu146⟩ : ∃ z : HS, z = wI u143 9 0 40 x144 := ⟨_, rfl⟩
                              rw [← eu146] at hR
                              replace h := bd_x eu146 h
                              clear eu146
                              refine lv_aload_n hx hb dX9_least_160 rfl (lv_at hl 0 rfl) ?_
                              refine lv_iload_n hx hb dX9_least_161 rfl (lv_at hl 1 rfl) ?_
                              refine lv_iload_n hx hb dX9_least_162 rfl (lv_at hl 2 rfl) ?_
                              refine lv_iload hx hb dX9_least_163 (lv_at hl 4 rfl) ?_
                              obtain ⟨⟨x148, u149⟩, hc147, h⟩ := ob h
                              replace h := bd_x (x := x148) rfl h
                              replace h := bd_x (x := u149) rfl h
                              refine r_callV1 (As := [.int x1, .int x2, .int x121]) (rest := []) (r := 9) (i := 0) C (vX9_seenOf hc147) hR hS (lv0 (by decide) (by decide)) (by decide) ml_X9_360 mw_X9_seenOf rfl ⟨Nat.le_of_ble_eq_true rfl, Nat.le_of_ble_eq_true rfl, Nat.le_of_ble_eq_true rfl, Nat.le_of_ble_eq_true rfl⟩ hl.1 rfl (Nat.le_of_ble_eq_true rfl) dX9_least_165 (fun H locs hR hS => ?_)
                              refine lv_iconst (v := (-1)) hx hb dX9_least_168 (by decide) ?_
                              obtain ⟨x150, hz, h⟩ := ob h
                              have Kj151 : ∀ (H : Heap) (locs : List Loc) (ls : Array Slot), Rel E a u149 H → va_S (AE E) s.heap H locs → lv_has ls 7 [(0, .ref (a 9 0)), (1, .int x1), (2, .int x2), (3, .int x3), (4, .int x121), (6, .int x125)] → W p l e { frames := 10, cells := 0, slots := 0, locals := 251 } s m args below meth c H locs 0 0 (MQ below (QW E a (some (.int out.1)) out.2) args s 0 0 (AE E)) (F0 m 178 ls [.int x150]) := by
                                intro H locs ls hR hS hl
                                clear hz
                                refine lv_istore (lv' := [(5, .int x150), (0, .ref (a 9 0)), (1, .int x1), (2, .int x2), (3, .int x3), (4, .int x121), (6, .int x125)]) hx hb dX9_least_178 hl (by decide) rfl (fun ls hl => ?_)
                                obtain ⟨x152, ex152⟩ : ∃ z : Int32, z = x125 + 1 := ⟨_, rfl⟩
                                replace h := bd_x ex152 h
                                refine lv_iinc (v := x152) (lv' := [(6, .int x152), (5, .int x150), (0, .ref (a 9 0)), (1, .int x1), (2, .int x2), (3, .int x3), (4, .int x121)]) hx hb dX9_least_180 hl (k := 6) rfl (by rw [ex152]; rfl) (by decide) rfl (fun ls hl => ?_)
                                refine lv_goto (tgt := 87) hx hb dX9_least_183 (by decide) ?_
                                exact ih _ _ _ _ _ _ h hR hS (lv_sub hl [2, 3, 4, 5, 6, 1, 0] rfl)
                              clear h
                              have h := hz
                              clear hz
                              refine lv_icmp_eq (tgt := 177) hx hb dX9_least_169 (by decide) (fun c_153 => ?_) (fun c_153 => ?_)
                              · rw [if_pos c_153] at h
                                refine lv_iconst (v := (-1)) hx hb dX9_least_177 (by decide) ?_
                                cases h
                                exact Kj151 _ _ _ hR hS (lv_sub hl [0, 1, 2, 3, 4, 5] rfl)
                              · rw [if_neg c_153] at h
                                refine lv_iload hx hb dX9_least_172 (lv_at hl 5 rfl) ?_
                                refine lv_goto (tgt := 178) hx hb dX9_least_174 (by decide) ?_
                                cases h
                                exact Kj151 _ _ _ hR hS (lv_sub hl [0, 1, 2, 3, 4, 5] rfl)
                            clear h
                            have h := hz
                            clear hz
                            refine lv_icmp_ne (tgt := 156) hx hb dX9_least_148 (by decide) (fun c_154 => ?_) (fun c_154 => ?_)
                            · rw [if_neg c_154] at h
                              refine lv_iconst (v := 1) hx hb dX9_least_156 (by decide) ?_
                              cases h
                              exact Kj145 _ _ _ hR hS (lv_sub hl [0, 1, 2, 3, 4, 5] rfl)
                            · rw [if_pos c_154] at h
                              refine lv_iload hx hb dX9_least_151 (lv_at hl 5 rfl) ?_
                              refine lv_goto (tgt := 157) hx hb dX9_least_153 (by decide) ?_
                              cases h
                              exact Kj145 _ _ _ hR hS (lv_sub hl [0, 1, 2, 3, 4, 5] rfl)
                          clear h
                          have h := hz
                          clear hz
                          refine lv_icmp_ne (tgt := 141) hx hb dX9_least_133 (by decide) (fun c_155 => ?_) (fun c_155 => ?_)
                          · rw [if_neg c_155] at h
                            refine lv_iconst (v := 0) hx hb dX9_least_141 (by decide) ?_
                            cases h
                            exact Kj142 _ _ _ hR hS (lv_sub hl [0, 1, 2, 3, 4, 5] rfl)
                          · rw [if_pos c_155] at h
                            refine lv_iload hx hb dX9_least_136 (lv_at hl 5 rfl) ?_
                            refine lv_goto (tgt := 142) hx hb dX9_least_138 (by decide) ?_
                            cases h
                            exact Kj142 _ _ _ hR hS (lv_sub hl [0, 1, 2, 3, 4, 5] rfl)
                        clear h
                        have h := hz
                        clear hz
                        refine lv_if_ne (tgt := 126) hx hb dX9_least_118 (by decide) (fun c_156 => ?_) (fun c_156 => ?_)
                        · rw [if_neg c_156] at h
                          refine lv_iconst (v := 0) hx hb dX9_least_126 (by decide) ?_
                          cases h
                          exact Kj139 _ _ _ hR hS (lv_sub hl [0, 1, 2, 3, 4, 6] rfl)
                        · rw [if_pos c_156] at h
                          refine lv_iload hx hb dX9_least_121 (lv_at hl 6 rfl) ?_
                          refine lv_goto (tgt := 127) hx hb dX9_least_123 (by decide) ?_
                          cases h
                          exact Kj139 _ _ _ hR hS (lv_sub hl [0, 1, 2, 3, 4, 6] rfl)
                    clear h
                    have h := hz
                    clear hz
                    refine lv_icmp_ne (tgt := 111) hx hb dX9_least_103 (by decide) (fun c_157 => ?_) (fun c_157 => ?_)
                    · rw [if_neg c_157] at h
                      refine lv_bipush (v := 9) hx hb dX9_least_111 (by decide) ?_
                      cases h
                      exact Kj136 _ _ _ hR hS (lv_sub hl [0, 1, 2, 3, 4, 5, 6] rfl)
                    · rw [if_pos c_157] at h
                      refine lv_bipush (v := 20) hx hb dX9_least_106 (by decide) ?_
                      refine lv_goto (tgt := 113) hx hb dX9_least_108 (by decide) ?_
                      cases h
                      exact Kj136 _ _ _ hR hS (lv_sub hl [0, 1, 2, 3, 4, 5, 6] rfl)
            exact LP FU _ _ _ _ _ _ h hR hS (lv_sub hl [1, 2, 3, 4, 5, 6, 0] rfl)
          clear h
          have h := hz
          clear hz
          refine lv_icmp_ne (tgt := 84) hx hb dX9_least_77 (by decide) (fun c_158 => ?_) (fun c_158 => ?_)
          · rw [if_neg c_158] at h
            refine lv_iconst (v := 1) hx hb dX9_least_84 (by decide) ?_
            cases h
            exact Kj123 _ _ _ hR hS (lv_sub hl [2, 3, 4, 5, 1, 0] rfl)
          · rw [if_pos c_158] at h
            refine lv_iconst (v := 0) hx hb dX9_least_80 (by decide) ?_
            refine lv_goto (tgt := 85) hx hb dX9_least_81 (by decide) ?_
            cases h
            exact Kj123 _ _ _ hR hS (lv_sub hl [2, 3, 4, 5, 1, 0] rfl)
        · rw [if_neg c_117] at h
          refine lv_iconst (v := 0) hx hb dX9_least_56 (by decide) ?_
          cases h
          exact e_iret C hr hR hS (Nat.le_of_ble_eq_true rfl) (Nat.le_of_ble_eq_true rfl) dX9_least_57
      clear h
      have h := hz
      clear hz
      refine jp_cut h (fun j159 hj159 h => ?_)
      have Kj159 : ∀  (H : Heap) (locs : List Loc) (ls : Array Slot), j159 = some x112 → Rel E a u108 H → va_S (AE E) s.heap H locs → lv_has ls 7 [(0, .ref (a 9 0)), (1, .int x1), (2, .int x2), (3, .int x3)] → W p l e { frames := 10, cells := 0, slots := 0, locals := 251 } s m args below meth c H locs 0 0 (MQ below (QW E a (some (.int out.1)) out.2) args s 0 0 (AE E)) (F0 m 44 ls [.ref (a 9 0)]) := by
        intro  H locs ls h hR hS hl
        replace h := jx0 hj159 h
        refine lv_iconst (v := 1) hx hb dX9_least_44 (by decide) ?_
        refine lv_goto (tgt := 49) hx hb dX9_least_45 (by decide) ?_
        cases h
        exact Kj113 _ _ _ hR hS (lv_sub hl [0, 1, 2, 3] rfl)
      refine lv_if_eq (tgt := 44) hx hb dX9_least_32 (by decide) (fun c_160 => ?_) (fun c_160 => ?_)
      · rw [if_pos c_160] at h
        exact Kj159  _ _ _ h hR hS (lv_sub hl [0, 1, 2, 3] rfl)
      · rw [if_neg c_160] at h
        refine lv_iload_n hx hb dX9_least_35 rfl (lv_at hl 3 rfl) ?_
        refine lv_iconst (v := 0) hx hb dX9_least_36 (by decide) ?_
        refine lv_iconst (v := 2) hx hb dX9_least_37 (by decide) ?_
        obtain ⟨x162, hc161, h⟩ := ob h
        refine r_callS1 (As := [.int x3, .int 0, .int 2]) (rest := [.ref (a 9 0)]) C (vX9_in hc161) hR hS ml_X9_113 ms_X9_in rfl ⟨Nat.le_of_ble_eq_true rfl, Nat.le_of_ble_eq_true rfl, Nat.le_of_ble_eq_true rfl, Nat.le_of_ble_eq_true rfl⟩ hl.1 rfl (Nat.le_of_ble_eq_true rfl) dX9_least_38 (fun H locs hR hS => ?_)
        refine lv_if_ne (tgt := 48) hx hb dX9_least_41 (by decide) (fun c_163 => ?_) (fun c_163 => ?_)
        · rw [if_neg c_163] at h
          refine lv_iconst (v := 0) hx hb dX9_least_48 (by decide) ?_
          cases h
          exact Kj113 _ _ _ hR hS (lv_sub hl [0, 1, 2, 3] rfl)
        · rw [if_pos c_163] at h
          exact Kj159  _ _ _ h hR hS (lv_sub hl [0, 1, 2, 3] rfl)
  clear h
  have h := hz
  clear hz
  refine lv_if_ne (tgt := 18) hx hb dX9_least_11 (by decide) (fun c_164 => ?_) (fun c_164 => ?_)
  · rw [if_neg c_164] at h
    refine lv_iconst (v := 0) hx hb dX9_least_18 (by decide) ?_
    cases h
    exact Kj105 _ _ _ hR hS (lv_sub hl [0, 1, 2, 3] rfl)
  · rw [if_pos c_164] at h
    refine lv_iconst (v := 1) hx hb dX9_least_14 (by decide) ?_
    refine lv_goto (tgt := 19) hx hb dX9_least_15 (by decide) ?_
    cases h
    exact Kj105 _ _ _ hR hS (lv_sub hl [0, 1, 2, 3] rfl)
set_option maxHeartbeats 4000000 in
set_option maxRecDepth 100000 in
theorem vX9_answer {l : Launch} {E : EV} {a : Nat → Nat → Nat} {u0 : HS} {x1 : Int32} {x2 : Int32} {x3 : Int32} {out : (Int32 × HS)} (h : mX9_answer u0 x1 x2 x3 = some out) : Ct l E yX9_answer cX9_answer 5 (some .int) 2 43 0 0 a u0 [.ref (a 9 0), .int x1, .int x2, .int x3] (some (.int out.1)) out.2 := by
  refine Ct.start (by decide) (Nat.le_of_ble_eq_true rfl) ?_
  intro p e s m args below meth c ls C hr hR hS hl
  have C : Cx E p s m args meth c cX9_answer 5 RX9 := C
  have hl : lv_has ls 5 [(0, .ref (a 9 0)), (1, .int x1), (2, .int x2), (3, .int x3)] := hl
  have hx := C.1
  have hb := C.2.1
  unfold mX9_answer at h
  refine lv_aload_n hx hb dX9_answer_0 rfl (lv_at hl 0 rfl) ?_
  refine lv_iconst (v := 0) hx hb dX9_answer_1 (by decide) ?_
  refine r_putI (ty := .int) C hR hS 9 0 0 (lv0 (by decide) (by decide)) (by decide) (by decide) (fun _ => rfl) fl_X9_76 (by decide) (by decide +kernel) rfl rfl dX9_answer_2 (fun H locs hR hS => ?_)
  obtain ⟨u101, eu101⟩ : ∃ z : HS, z = wI u0 9 0 0 0 := ⟨_, rfl⟩
  rw [← eu101] at hR
  replace h := bd_x eu101 h
  clear eu101
  refine lv_aload_n hx hb dX9_answer_5 rfl (lv_at hl 0 rfl) ?_
  refine lv_aload_n hx hb dX9_answer_6 rfl (lv_at hl 0 rfl) ?_
  refine lv_iload_n hx hb dX9_answer_7 rfl (lv_at hl 1 rfl) ?_
  obtain ⟨x103, hc102, h⟩ := ob h
  refine r_callV1 (As := [.int x1]) (rest := [.ref (a 9 0)]) (r := 9) (i := 0) C (vX9_isLooker hc102) hR hS (lv0 (by decide) (by decide)) (by decide) ml_X9_295 mw_X9_isLooker rfl ⟨Nat.le_of_ble_eq_true rfl, Nat.le_of_ble_eq_true rfl, Nat.le_of_ble_eq_true rfl, Nat.le_of_ble_eq_true rfl⟩ hl.1 rfl (Nat.le_of_ble_eq_true rfl) dX9_answer_8 (fun H locs hR hS => ?_)
  obtain ⟨x104, hz, h⟩ := ob h
  have Kj105 : ∀ (H : Heap) (locs : List Loc) (ls : Array Slot), Rel E a u101 H → va_S (AE E) s.heap H locs → lv_has ls 5 [(0, .ref (a 9 0)), (1, .int x1), (2, .int x2), (3, .int x3)] → W p l e { frames := 2, cells := 0, slots := 0, locals := 43 } s m args below meth c H locs 0 0 (MQ below (QW E a (some (.int out.1)) out.2) args s 0 0 (AE E)) (F0 m 28 ls [.int x104, .ref (a 9 0)]) := by
    intro H locs ls hR hS hl
    clear hz
    refine lv_iconst (v := 1) hx hb dX9_answer_28 (by decide) ?_
    obtain ⟨⟨x107, u108⟩, hc106, h⟩ := ob h
    replace h := bd_x (x := x107) rfl h
    replace h := bd_x (x := u108) rfl h
    refine r_callV1 (As := [.int x104, .int 1]) (rest := []) (r := 9) (i := 0) C (vX9_bad hc106) hR hS (lv0 (by decide) (by decide)) (by decide) ml_X9_162 mw_X9_bad rfl ⟨Nat.le_of_ble_eq_true rfl, Nat.le_of_ble_eq_true rfl, Nat.le_of_ble_eq_true rfl, Nat.le_of_ble_eq_true rfl⟩ hl.1 rfl (Nat.le_of_ble_eq_true rfl) dX9_answer_29 (fun H locs hR hS => ?_)
    refine lv_if_eq (tgt := 37) hx hb dX9_answer_32 (by decide) (fun c_109 => ?_) (fun c_109 => ?_)
    · rw [if_pos c_109] at h
      refine lv_aload_n hx hb dX9_answer_37 rfl (lv_at hl 0 rfl) ?_
      refine r_get C hR 9 0 33 (v := .ref (a 80 0)) (lv0 (by decide) (by decide)) (by decide) (by decide) rfl fl_X9_61 dX9_answer_38 ?_
      refine lv_iload_n hx hb dX9_answer_41 rfl (lv_at hl 1 rfl) ?_
      obtain ⟨k110, hk110, h⟩ := ob h
      have hLk110 : k110 < cntS 81 := by have q1 := (ck_in hk110).2.2; have q2 : cntS 81 = 15 := rfl; omega
      refine r_aald C hR 80 0 81 0 6 (lv0 (by decide) (by decide)) (by decide) rfl rfl rfl (fun _ => rfl) rfl hk110 dX9_answer_42 ?_
      refine lv_iconst (v := 3) hx hb dX9_answer_43 (by decide) ?_
      refine lv_iload_n hx hb dX9_answer_44 rfl (lv_at hl 2 rfl) ?_
      refine lv_iadd hx hb dX9_answer_45 ?_
      obtain ⟨k111, hk111, h⟩ := ob h
      refine r_ald C hR 81 k110 (lv0 hLk110 (by decide)) (by decide) rfl (fun _ => rfl) rfl hk111 dX9_answer_46 ?_
      refine lv_topi (fun x112 ex112 => ?_)
      replace h := bd_x ex112 h
      refine lv_istore (lv' := [(4, .int x112), (0, .ref (a 9 0)), (1, .int x1), (2, .int x2), (3, .int x3)]) hx hb dX9_answer_47 hl (by decide) rfl (fun ls hl => ?_)
      refine lv_aload_n hx hb dX9_answer_49 rfl (lv_at hl 1 rfl) ?_
      refine r_get C hR 9 0 33 (v := .ref (a 80 0)) (lv0 (by decide) (by decide)) (by decide) (by decide) rfl fl_X9_61 dX9_answer_50 ?_
      refine lv_iload_n hx hb dX9_answer_53 rfl (lv_at hl 2 rfl) ?_
      obtain ⟨k113, hk113, h⟩ := ob h
      have hLk113 : k113 < cntS 81 := by have q1 := (ck_in hk113).2.2; have q2 : cntS 81 = 15 := rfl; omega
      refine r_aald C hR 80 0 81 0 6 (lv0 (by decide) (by decide)) (by decide) rfl rfl rfl (fun _ => rfl) rfl hk113 dX9_answer_54 ?_
      refine lv_iconst (v := 3) hx hb dX9_answer_55 (by decide) ?_
      refine lv_iload_n hx hb dX9_answer_56 rfl (lv_at hl 3 rfl) ?_
      refine lv_iadd hx hb dX9_answer_57 ?_
      refine lv_iload_n hx hb dX9_answer_58 rfl (lv_at hl 4 rfl) ?_
      obtain ⟨x114, hz, h⟩ := ob h
      have Kj115 : ∀ (H : Heap) (locs : List Loc) (ls : Array Slot), Rel E a u108 H → va_S (AE E) s.heap H locs → lv_has ls 5 [(4, .int x112)] → W p l e { frames := 2, cells := 0, slots := 0, locals := 43 } s m args below meth c H locs 0 0 (MQ below (QW E a (some (.int out.1)) out.2) args s 0 0 (AE E)) (F0 m 67 ls [.int x114, .int (3 + x2), .ref (a 81 k113)]) := by
        intro H locs ls hR hS hl
        clear hz
        obtain ⟨k116, hk116, h⟩ := ob h
        refine r_ast C hR hS 81 k113 (lv0 hLk113 (by decide)) (by decide) rfl (fun _ _ => rfl) rfl hk116 dX9_answer_67 (fun H locs hR hS => ?_)
        obtain ⟨u117, eu117⟩ : ∃ z : HS, z = wI u108 81 k113 k116 x114 := ⟨_, rfl⟩
        rw [← eu117] at hR
        replace h := bd_x eu117 h
        clear eu117
        refine lv_iload hx hb dX9_answer_68 (lv_at hl 0 rfl) ?_
        cases h
        exact e_iret C hr hR hS (Nat.le_of_ble_eq_true rfl) (Nat.le_of_ble_eq_true rfl) dX9_answer_70
      clear h
      have h := hz
      clear hz
      refine lv_if_eq (tgt := 66) hx hb dX9_answer_59 (by decide) (fun c_118 => ?_) (fun c_118 => ?_)
      · rw [if_pos c_118] at h
        refine lv_iconst (v := 0) hx hb dX9_answer_66 (by decide) ?_
        cases h
        exact Kj115 _ _ _ hR hS (lv_sub hl [0] rfl)
      · rw [if_neg c_118] at h
        refine lv_iconst (v := 1) hx hb dX9_answer_62 (by decide) ?_
        refine lv_goto (tgt := 67) hx hb dX9_answer_63 (by decide) ?_
        cases h
        exact Kj115 _ _ _ hR hS (lv_sub hl [0] rfl)
    · rw [if_neg c_109] at h
      refine lv_iconst (v := 0) hx hb dX9_answer_35 (by decide) ?_
      cases h
      exact e_iret C hr hR hS (Nat.le_of_ble_eq_true rfl) (Nat.le_of_ble_eq_true rfl) dX9_answer_36
  clear h
  have h := hz
  clear hz
  refine jp_cut h (fun j119 hj119 h => ?_)
  have Kj119 : ∀  (H : Heap) (locs : List Loc) (ls : Array Slot), j119 = some x104 → Rel E a u101 H → va_S (AE E) s.heap H locs → lv_has ls 5 [(0, .ref (a 9 0)), (1, .int x1), (2, .int x2), (3, .int x3)] → W p l e { frames := 2, cells := 0, slots := 0, locals := 43 } s m args below meth c H locs 0 0 (MQ below (QW E a (some (.int out.1)) out.2) args s 0 0 (AE E)) (F0 m 23 ls [.ref (a 9 0)]) := by
    intro  H locs ls h hR hS hl
    replace h := jx0 hj119 h
    refine lv_iconst (v := 1) hx hb dX9_answer_23 (by decide) ?_
    refine lv_goto (tgt := 28) hx hb dX9_answer_24 (by decide) ?_
    cases h
    exact Kj105 _ _ _ hR hS (lv_sub hl [0, 1, 2, 3] rfl)
  refine lv_if_eq (tgt := 23) hx hb dX9_answer_11 (by decide) (fun c_120 => ?_) (fun c_120 => ?_)
  · rw [if_pos c_120] at h
    exact Kj119  _ _ _ h hR hS (lv_sub hl [0, 1, 2, 3] rfl)
  · rw [if_neg c_120] at h
    refine lv_iload_n hx hb dX9_answer_14 rfl (lv_at hl 2 rfl) ?_
    refine lv_iconst (v := 0) hx hb dX9_answer_15 (by decide) ?_
    refine lv_iconst (v := 2) hx hb dX9_answer_16 (by decide) ?_
    obtain ⟨x122, hc121, h⟩ := ob h
    refine r_callS1 (As := [.int x2, .int 0, .int 2]) (rest := [.ref (a 9 0)]) C (vX9_in hc121) hR hS ml_X9_113 ms_X9_in rfl ⟨Nat.le_of_ble_eq_true rfl, Nat.le_of_ble_eq_true rfl, Nat.le_of_ble_eq_true rfl, Nat.le_of_ble_eq_true rfl⟩ hl.1 rfl (Nat.le_of_ble_eq_true rfl) dX9_answer_17 (fun H locs hR hS => ?_)
    refine lv_if_ne (tgt := 27) hx hb dX9_answer_20 (by decide) (fun c_123 => ?_) (fun c_123 => ?_)
    · rw [if_neg c_123] at h
      refine lv_iconst (v := 0) hx hb dX9_answer_27 (by decide) ?_
      cases h
      exact Kj105 _ _ _ hR hS (lv_sub hl [0, 1, 2, 3] rfl)
    · rw [if_pos c_123] at h
      exact Kj119  _ _ _ h hR hS (lv_sub hl [0, 1, 2, 3] rfl)
set_option maxHeartbeats 4000000 in
set_option maxRecDepth 100000 in
theorem vX9_counted {l : Launch} {E : EV} {a : Nat → Nat → Nat} {u0 : HS} {x1 : Int32} {x2 : Int32} {out : (Int32 × HS)} (h : mX9_counted u0 x1 x2 = some out) : Ct l E yX9_counted cX9_counted 4 (some .int) 2 43 0 0 a u0 [.ref (a 9 0), .int x1, .int x2] (some (.int out.1)) out.2 := by
  refine Ct.start (by decide) (Nat.le_of_ble_eq_true rfl) ?_
  intro p e s m args below meth c ls C hr hR hS hl
  have C : Cx E p s m args meth c cX9_counted 4 RX9 := C
  have hl : lv_has ls 4 [(0, .ref (a 9 0)), (1, .int x1), (2, .int x2)] := hl
  have hx := C.1
  have hb := C.2.1
  unfold mX9_counted at h
  refine lv_aload_n hx hb dX9_counted_0 rfl (lv_at hl 0 rfl) ?_
  refine lv_iconst (v := 0) hx hb dX9_counted_1 (by decide) ?_
  refine r_putI (ty := .int) C hR hS 9 0 0 (lv0 (by decide) (by decide)) (by decide) (by decide) (fun _ => rfl) fl_X9_76 (by decide) (by decide +kernel) rfl rfl dX9_counted_2 (fun H locs hR hS => ?_)
  obtain ⟨u101, eu101⟩ : ∃ z : HS, z = wI u0 9 0 0 0 := ⟨_, rfl⟩
  rw [← eu101] at hR
  replace h := bd_x eu101 h
  clear eu101
  refine lv_aload_n hx hb dX9_counted_5 rfl (lv_at hl 0 rfl) ?_
  refine lv_aload_n hx hb dX9_counted_6 rfl (lv_at hl 0 rfl) ?_
  refine lv_iload_n hx hb dX9_counted_7 rfl (lv_at hl 1 rfl) ?_
  obtain ⟨x103, hc102, h⟩ := ob h
  refine r_callV1 (As := [.int x1]) (rest := [.ref (a 9 0)]) (r := 9) (i := 0) C (vX9_isLooker hc102) hR hS (lv0 (by decide) (by decide)) (by decide) ml_X9_295 mw_X9_isLooker rfl ⟨Nat.le_of_ble_eq_true rfl, Nat.le_of_ble_eq_true rfl, Nat.le_of_ble_eq_true rfl, Nat.le_of_ble_eq_true rfl⟩ hl.1 rfl (Nat.le_of_ble_eq_true rfl) dX9_counted_8 (fun H locs hR hS => ?_)
  obtain ⟨x104, hz, h⟩ := ob h
  have Kj105 : ∀ (H : Heap) (locs : List Loc) (ls : Array Slot), Rel E a u101 H → va_S (AE E) s.heap H locs → lv_has ls 4 [(0, .ref (a 9 0)), (1, .int x1), (2, .int x2)] → W p l e { frames := 2, cells := 0, slots := 0, locals := 43 } s m args below meth c H locs 0 0 (MQ below (QW E a (some (.int out.1)) out.2) args s 0 0 (AE E)) (F0 m 30 ls [.int x104, .ref (a 9 0)]) := by
    intro H locs ls hR hS hl
    clear hz
    refine lv_iconst (v := 1) hx hb dX9_counted_30 (by decide) ?_
    obtain ⟨⟨x107, u108⟩, hc106, h⟩ := ob h
    replace h := bd_x (x := x107) rfl h
    replace h := bd_x (x := u108) rfl h
    refine r_callV1 (As := [.int x104, .int 1]) (rest := []) (r := 9) (i := 0) C (vX9_bad hc106) hR hS (lv0 (by decide) (by decide)) (by decide) ml_X9_162 mw_X9_bad rfl ⟨Nat.le_of_ble_eq_true rfl, Nat.le_of_ble_eq_true rfl, Nat.le_of_ble_eq_true rfl, Nat.le_of_ble_eq_true rfl⟩ hl.1 rfl (Nat.le_of_ble_eq_true rfl) dX9_counted_31 (fun H locs hR hS => ?_)
    refine lv_if_eq (tgt := 39) hx hb dX9_counted_34 (by decide) (fun c_109 => ?_) (fun c_109 => ?_)
    · rw [if_pos c_109] at h
      refine lv_aload_n hx hb dX9_counted_39 rfl (lv_at hl 0 rfl) ?_
      refine r_get C hR 9 0 33 (v := .ref (a 80 0)) (lv0 (by decide) (by decide)) (by decide) (by decide) rfl fl_X9_61 dX9_counted_40 ?_
      refine lv_iload_n hx hb dX9_counted_43 rfl (lv_at hl 1 rfl) ?_
      obtain ⟨k110, hk110, h⟩ := ob h
      have hLk110 : k110 < cntS 81 := by have q1 := (ck_in hk110).2.2; have q2 : cntS 81 = 15 := rfl; omega
      refine r_aald C hR 80 0 81 0 6 (lv0 (by decide) (by decide)) (by decide) rfl rfl rfl (fun _ => rfl) rfl hk110 dX9_counted_44 ?_
      refine lv_bipush (v := 6) hx hb dX9_counted_45 (by decide) ?_
      obtain ⟨k111, hk111, h⟩ := ob h
      refine r_ald C hR 81 k110 (lv0 hLk110 (by decide)) (by decide) rfl (fun _ => rfl) rfl hk111 dX9_counted_47 ?_
      refine lv_topi (fun x112 ex112 => ?_)
      replace h := bd_x ex112 h
      refine lv_istore_n (lv' := [(3, .int x112), (0, .ref (a 9 0)), (1, .int x1), (2, .int x2)]) hx hb dX9_counted_48 rfl hl (by decide) rfl (fun ls hl => ?_)
      refine lv_aload_n hx hb dX9_counted_49 rfl (lv_at hl 1 rfl) ?_
      refine r_get C hR 9 0 33 (v := .ref (a 80 0)) (lv0 (by decide) (by decide)) (by decide) (by decide) rfl fl_X9_61 dX9_counted_50 ?_
      refine lv_iload_n hx hb dX9_counted_53 rfl (lv_at hl 2 rfl) ?_
      obtain ⟨k113, hk113, h⟩ := ob h
      have hLk113 : k113 < cntS 81 := by have q1 := (ck_in hk113).2.2; have q2 : cntS 81 = 15 := rfl; omega
      refine r_aald C hR 80 0 81 0 6 (lv0 (by decide) (by decide)) (by decide) rfl rfl rfl (fun _ => rfl) rfl hk113 dX9_counted_54 ?_
      refine lv_bipush (v := 6) hx hb dX9_counted_55 (by decide) ?_
      refine lv_iload_n hx hb dX9_counted_57 rfl (lv_at hl 3 rfl) ?_
      obtain ⟨k114, hk114, h⟩ := ob h
      refine r_ast C hR hS 81 k113 (lv0 hLk113 (by decide)) (by decide) rfl (fun _ _ => rfl) rfl hk114 dX9_counted_58 (fun H locs hR hS => ?_)
      obtain ⟨u115, eu115⟩ : ∃ z : HS, z = wI u108 81 k113 k114 x2 := ⟨_, rfl⟩
      rw [← eu115] at hR
      replace h := bd_x eu115 h
      clear eu115
      refine lv_iload_n hx hb dX9_counted_59 rfl (lv_at hl 0 rfl) ?_
      cases h
      exact e_iret C hr hR hS (Nat.le_of_ble_eq_true rfl) (Nat.le_of_ble_eq_true rfl) dX9_counted_60
    · rw [if_neg c_109] at h
      refine lv_iconst (v := 0) hx hb dX9_counted_37 (by decide) ?_
      cases h
      exact e_iret C hr hR hS (Nat.le_of_ble_eq_true rfl) (Nat.le_of_ble_eq_true rfl) dX9_counted_38
  clear h
  have h := hz
  clear hz
  refine jp_cut h (fun j116 hj116 h => ?_)
  have Kj116 : ∀  (H : Heap) (locs : List Loc) (ls : Array Slot), j116 = some x104 → Rel E a u101 H → va_S (AE E) s.heap H locs → lv_has ls 4 [(0, .ref (a 9 0)), (1, .int x1), (2, .int x2)] → W p l e { frames := 2, cells := 0, slots := 0, locals := 43 } s m args below meth c H locs 0 0 (MQ below (QW E a (some (.int out.1)) out.2) args s 0 0 (AE E)) (F0 m 25 ls [.ref (a 9 0)]) := by
    intro  H locs ls h hR hS hl
    replace h := jx0 hj116 h
    refine lv_iconst (v := 1) hx hb dX9_counted_25 (by decide) ?_
    refine lv_goto (tgt := 30) hx hb dX9_counted_26 (by decide) ?_
    cases h
    exact Kj105 _ _ _ hR hS (lv_sub hl [0, 1, 2] rfl)
  refine lv_if_eq (tgt := 25) hx hb dX9_counted_11 (by decide) (fun c_117 => ?_) (fun c_117 => ?_)
  · rw [if_pos c_117] at h
    exact Kj116  _ _ _ h hR hS (lv_sub hl [0, 1, 2] rfl)
  · rw [if_neg c_117] at h
    refine lv_iload_n hx hb dX9_counted_14 rfl (lv_at hl 2 rfl) ?_
    refine lv_iconst (v := 0) hx hb dX9_counted_15 (by decide) ?_
    refine lv_sipush (v := 999) hx hb dX9_counted_16 (by decide) ?_
    obtain ⟨x119, hc118, h⟩ := ob h
    refine r_callS1 (As := [.int x2, .int 0, .int 999]) (rest := [.ref (a 9 0)]) C (vX9_in hc118) hR hS ml_X9_113 ms_X9_in rfl ⟨Nat.le_of_ble_eq_true rfl, Nat.le_of_ble_eq_true rfl, Nat.le_of_ble_eq_true rfl, Nat.le_of_ble_eq_true rfl⟩ hl.1 rfl (Nat.le_of_ble_eq_true rfl) dX9_counted_19 (fun H locs hR hS => ?_)
    refine lv_if_ne (tgt := 29) hx hb dX9_counted_22 (by decide) (fun c_120 => ?_) (fun c_120 => ?_)
    · rw [if_neg c_120] at h
      refine lv_iconst (v := 0) hx hb dX9_counted_29 (by decide) ?_
      cases h
      exact Kj105 _ _ _ hR hS (lv_sub hl [0, 1, 2] rfl)
    · rw [if_pos c_120] at h
      exact Kj116  _ _ _ h hR hS (lv_sub hl [0, 1, 2] rfl)
set_option maxHeartbeats 4000000 in
set_option maxRecDepth 100000 in
theorem vX9_sure {l : Launch} {E : EV} {a : Nat → Nat → Nat} {u0 : HS} {x1 : Int32} {x2 : Int32} {out : (Int32 × HS)} (h : mX9_sure u0 x1 x2 = some out) : Ct l E yX9_sure cX9_sure 4 (some .int) 2 43 0 0 a u0 [.ref (a 9 0), .int x1, .int x2] (some (.int out.1)) out.2 := by
  refine Ct.start (by decide) (Nat.le_of_ble_eq_true rfl) ?_
  intro p e s m args below meth c ls C hr hR hS hl
  have C : Cx E p s m args meth c cX9_sure 4 RX9 := C
  have hl : lv_has ls 4 [(0, .ref (a 9 0)), (1, .int x1), (2, .int x2)] := hl
  have hx := C.1
  have hb := C.2.1
  unfold mX9_sure at h
  refine lv_aload_n hx hb dX9_sure_0 rfl (lv_at hl 0 rfl) ?_
  refine lv_iconst (v := 0) hx hb dX9_sure_1 (by decide) ?_
  refine r_putI (ty := .int) C hR hS 9 0 0 (lv0 (by decide) (by decide)) (by decide) (by decide) (fun _ => rfl) fl_X9_76 (by decide) (by decide +kernel) rfl rfl dX9_sure_2 (fun H locs hR hS => ?_)
  obtain ⟨u101, eu101⟩ : ∃ z : HS, z = wI u0 9 0 0 0 := ⟨_, rfl⟩
  rw [← eu101] at hR
  replace h := bd_x eu101 h
  clear eu101
  refine lv_aload_n hx hb dX9_sure_5 rfl (lv_at hl 0 rfl) ?_
  refine lv_aload_n hx hb dX9_sure_6 rfl (lv_at hl 0 rfl) ?_
  refine lv_iload_n hx hb dX9_sure_7 rfl (lv_at hl 1 rfl) ?_
  obtain ⟨x103, hc102, h⟩ := ob h
  refine r_callV1 (As := [.int x1]) (rest := [.ref (a 9 0)]) (r := 9) (i := 0) C (vX9_isLooker hc102) hR hS (lv0 (by decide) (by decide)) (by decide) ml_X9_295 mw_X9_isLooker rfl ⟨Nat.le_of_ble_eq_true rfl, Nat.le_of_ble_eq_true rfl, Nat.le_of_ble_eq_true rfl, Nat.le_of_ble_eq_true rfl⟩ hl.1 rfl (Nat.le_of_ble_eq_true rfl) dX9_sure_8 (fun H locs hR hS => ?_)
  obtain ⟨x104, hz, h⟩ := ob h
  have Kj105 : ∀ (H : Heap) (locs : List Loc) (ls : Array Slot), Rel E a u101 H → va_S (AE E) s.heap H locs → lv_has ls 4 [(0, .ref (a 9 0)), (1, .int x1), (2, .int x2)] → W p l e { frames := 2, cells := 0, slots := 0, locals := 43 } s m args below meth c H locs 0 0 (MQ below (QW E a (some (.int out.1)) out.2) args s 0 0 (AE E)) (F0 m 29 ls [.int x104, .ref (a 9 0)]) := by
    intro H locs ls hR hS hl
    clear hz
    refine lv_iconst (v := 1) hx hb dX9_sure_29 (by decide) ?_
    obtain ⟨⟨x107, u108⟩, hc106, h⟩ := ob h
    replace h := bd_x (x := x107) rfl h
    replace h := bd_x (x := u108) rfl h
    refine r_callV1 (As := [.int x104, .int 1]) (rest := []) (r := 9) (i := 0) C (vX9_bad hc106) hR hS (lv0 (by decide) (by decide)) (by decide) ml_X9_162 mw_X9_bad rfl ⟨Nat.le_of_ble_eq_true rfl, Nat.le_of_ble_eq_true rfl, Nat.le_of_ble_eq_true rfl, Nat.le_of_ble_eq_true rfl⟩ hl.1 rfl (Nat.le_of_ble_eq_true rfl) dX9_sure_30 (fun H locs hR hS => ?_)
    refine lv_if_eq (tgt := 38) hx hb dX9_sure_33 (by decide) (fun c_109 => ?_) (fun c_109 => ?_)
    · rw [if_pos c_109] at h
      refine lv_aload_n hx hb dX9_sure_38 rfl (lv_at hl 0 rfl) ?_
      refine r_get C hR 9 0 33 (v := .ref (a 80 0)) (lv0 (by decide) (by decide)) (by decide) (by decide) rfl fl_X9_61 dX9_sure_39 ?_
      refine lv_iload_n hx hb dX9_sure_42 rfl (lv_at hl 1 rfl) ?_
      obtain ⟨k110, hk110, h⟩ := ob h
      have hLk110 : k110 < cntS 81 := by have q1 := (ck_in hk110).2.2; have q2 : cntS 81 = 15 := rfl; omega
      refine r_aald C hR 80 0 81 0 6 (lv0 (by decide) (by decide)) (by decide) rfl rfl rfl (fun _ => rfl) rfl hk110 dX9_sure_43 ?_
      refine lv_bipush (v := 7) hx hb dX9_sure_44 (by decide) ?_
      obtain ⟨k111, hk111, h⟩ := ob h
      refine r_ald C hR 81 k110 (lv0 hLk110 (by decide)) (by decide) rfl (fun _ => rfl) rfl hk111 dX9_sure_46 ?_
      refine lv_topi (fun x112 ex112 => ?_)
      replace h := bd_x ex112 h
      refine lv_istore_n (lv' := [(3, .int x112), (0, .ref (a 9 0)), (1, .int x1), (2, .int x2)]) hx hb dX9_sure_47 rfl hl (by decide) rfl (fun ls hl => ?_)
      refine lv_aload_n hx hb dX9_sure_48 rfl (lv_at hl 1 rfl) ?_
      refine r_get C hR 9 0 33 (v := .ref (a 80 0)) (lv0 (by decide) (by decide)) (by decide) (by decide) rfl fl_X9_61 dX9_sure_49 ?_
      refine lv_iload_n hx hb dX9_sure_52 rfl (lv_at hl 2 rfl) ?_
      obtain ⟨k113, hk113, h⟩ := ob h
      have hLk113 : k113 < cntS 81 := by have q1 := (ck_in hk113).2.2; have q2 : cntS 81 = 15 := rfl; omega
      refine r_aald C hR 80 0 81 0 6 (lv0 (by decide) (by decide)) (by decide) rfl rfl rfl (fun _ => rfl) rfl hk113 dX9_sure_53 ?_
      refine lv_bipush (v := 7) hx hb dX9_sure_54 (by decide) ?_
      refine lv_iload_n hx hb dX9_sure_56 rfl (lv_at hl 3 rfl) ?_
      obtain ⟨k114, hk114, h⟩ := ob h
      refine r_ast C hR hS 81 k113 (lv0 hLk113 (by decide)) (by decide) rfl (fun _ _ => rfl) rfl hk114 dX9_sure_57 (fun H locs hR hS => ?_)
      obtain ⟨u115, eu115⟩ : ∃ z : HS, z = wI u108 81 k113 k114 x2 := ⟨_, rfl⟩
      rw [← eu115] at hR
      replace h := bd_x eu115 h
      clear eu115
      refine lv_iload_n hx hb dX9_sure_58 rfl (lv_at hl 0 rfl) ?_
      cases h
      exact e_iret C hr hR hS (Nat.le_of_ble_eq_true rfl) (Nat.le_of_ble_eq_true rfl) dX9_sure_59
    · rw [if_neg c_109] at h
      refine lv_iconst (v := 0) hx hb dX9_sure_36 (by decide) ?_
      cases h
      exact e_iret C hr hR hS (Nat.le_of_ble_eq_true rfl) (Nat.le_of_ble_eq_true rfl) dX9_sure_37
  clear h
  have h := hz
  clear hz
  refine jp_cut h (fun j116 hj116 h => ?_)
  have Kj116 : ∀  (H : Heap) (locs : List Loc) (ls : Array Slot), j116 = some x104 → Rel E a u101 H → va_S (AE E) s.heap H locs → lv_has ls 4 [(0, .ref (a 9 0)), (1, .int x1), (2, .int x2)] → W p l e { frames := 2, cells := 0, slots := 0, locals := 43 } s m args below meth c H locs 0 0 (MQ below (QW E a (some (.int out.1)) out.2) args s 0 0 (AE E)) (F0 m 24 ls [.ref (a 9 0)]) := by
    intro  H locs ls h hR hS hl
    replace h := jx0 hj116 h
    refine lv_iconst (v := 1) hx hb dX9_sure_24 (by decide) ?_
    refine lv_goto (tgt := 29) hx hb dX9_sure_25 (by decide) ?_
    cases h
    exact Kj105 _ _ _ hR hS (lv_sub hl [0, 1, 2] rfl)
  refine lv_if_eq (tgt := 24) hx hb dX9_sure_11 (by decide) (fun c_117 => ?_) (fun c_117 => ?_)
  · rw [if_pos c_117] at h
    exact Kj116  _ _ _ h hR hS (lv_sub hl [0, 1, 2] rfl)
  · rw [if_neg c_117] at h
    refine lv_iload_n hx hb dX9_sure_14 rfl (lv_at hl 2 rfl) ?_
    refine lv_iconst (v := 0) hx hb dX9_sure_15 (by decide) ?_
    refine lv_bipush (v := 100) hx hb dX9_sure_16 (by decide) ?_
    obtain ⟨x119, hc118, h⟩ := ob h
    refine r_callS1 (As := [.int x2, .int 0, .int 100]) (rest := [.ref (a 9 0)]) C (vX9_in hc118) hR hS ml_X9_113 ms_X9_in rfl ⟨Nat.le_of_ble_eq_true rfl, Nat.le_of_ble_eq_true rfl, Nat.le_of_ble_eq_true rfl, Nat.le_of_ble_eq_true rfl⟩ hl.1 rfl (Nat.le_of_ble_eq_true rfl) dX9_sure_18 (fun H locs hR hS => ?_)
    refine lv_if_ne (tgt := 28) hx hb dX9_sure_21 (by decide) (fun c_120 => ?_) (fun c_120 => ?_)
    · rw [if_neg c_120] at h
      refine lv_iconst (v := 0) hx hb dX9_sure_28 (by decide) ?_
      cases h
      exact Kj105 _ _ _ hR hS (lv_sub hl [0, 1, 2] rfl)
    · rw [if_pos c_120] at h
      exact Kj116  _ _ _ h hR hS (lv_sub hl [0, 1, 2] rfl)
set_option maxHeartbeats 4000000 in
set_option maxRecDepth 100000 in
theorem vX9_isOf {l : Launch} {E : EV} {a : Nat → Nat → Nat} {u0 : HS} {x1 : Int32} {x2 : Int32} {x3 : Int32} {out : Int32} (h : mX9_isOf u0 x1 x2 x3 = some out) : Ct l E yX9_isOf cX9_isOf 4 (some .boolean) 0 0 0 0 a u0 [.ref (a 9 0), .int x1, .int x2, .int x3] (some (.int out)) u0 := by
  refine Ct.start (by decide) (Nat.le_of_ble_eq_true rfl) ?_
  intro p e s m args below meth c ls C hr hR hS hl
  have C : Cx E p s m args meth c cX9_isOf 4 RX9 := C
  have hl : lv_has ls 4 [(0, .ref (a 9 0)), (1, .int x1), (2, .int x2), (3, .int x3)] := hl
  have hx := C.1
  have hb := C.2.1
  unfold mX9_isOf at h
  refine lv_aload_n hx hb dX9_isOf_0 rfl (lv_at hl 0 rfl) ?_
  refine r_get C hR 9 0 33 (v := .ref (a 80 0)) (lv0 (by decide) (by decide)) (by decide) (by decide) rfl fl_X9_61 dX9_isOf_1 ?_
  refine lv_iload_n hx hb dX9_isOf_4 rfl (lv_at hl 1 rfl) ?_
  obtain ⟨k101, hk101, h⟩ := ob h
  have hLk101 : k101 < cntS 81 := by have q1 := (ck_in hk101).2.2; have q2 : cntS 81 = 15 := rfl; omega
  refine r_aald C hR 80 0 81 0 6 (lv0 (by decide) (by decide)) (by decide) rfl rfl rfl (fun _ => rfl) rfl hk101 dX9_isOf_5 ?_
  refine lv_iconst (v := 0) hx hb dX9_isOf_6 (by decide) ?_
  obtain ⟨k102, hk102, h⟩ := ob h
  refine r_ald C hR 81 k101 (lv0 hLk101 (by decide)) (by decide) rfl (fun _ => rfl) rfl hk102 dX9_isOf_7 ?_
  refine lv_iload_n hx hb dX9_isOf_8 rfl (lv_at hl 2 rfl) ?_
  refine lv_icmp_ne (tgt := 28) hx hb dX9_isOf_9 (by decide) (fun c_103 => ?_) (fun c_103 => ?_)
  · rw [if_neg c_103] at h
    refine lv_iconst (v := 0) hx hb dX9_isOf_28 (by decide) ?_
    cases h
    exact e_zret (v := 0) C hr rfl hR hS (Nat.le_of_ble_eq_true rfl) (Nat.le_of_ble_eq_true rfl) dX9_isOf_29
  · rw [if_pos c_103] at h
    refine lv_aload_n hx hb dX9_isOf_12 rfl (lv_at hl 0 rfl) ?_
    refine r_get C hR 9 0 33 (v := .ref (a 80 0)) (lv0 (by decide) (by decide)) (by decide) (by decide) rfl fl_X9_61 dX9_isOf_13 ?_
    refine lv_iload_n hx hb dX9_isOf_16 rfl (lv_at hl 1 rfl) ?_
    obtain ⟨k104, hk104, h⟩ := ob h
    have hLk104 : k104 < cntS 81 := by have q1 := (ck_in hk104).2.2; have q2 : cntS 81 = 15 := rfl; omega
    refine r_aald C hR 80 0 81 0 6 (lv0 (by decide) (by decide)) (by decide) rfl rfl rfl (fun _ => rfl) rfl hk104 dX9_isOf_17 ?_
    refine lv_iconst (v := 1) hx hb dX9_isOf_18 (by decide) ?_
    obtain ⟨k105, hk105, h⟩ := ob h
    refine r_ald C hR 81 k104 (lv0 hLk104 (by decide)) (by decide) rfl (fun _ => rfl) rfl hk105 dX9_isOf_19 ?_
    refine lv_iload_n hx hb dX9_isOf_20 rfl (lv_at hl 3 rfl) ?_
    refine lv_icmp_ne (tgt := 28) hx hb dX9_isOf_21 (by decide) (fun c_106 => ?_) (fun c_106 => ?_)
    · rw [if_neg c_106] at h
      refine lv_iconst (v := 0) hx hb dX9_isOf_28 (by decide) ?_
      cases h
      exact e_zret (v := 0) C hr rfl hR hS (Nat.le_of_ble_eq_true rfl) (Nat.le_of_ble_eq_true rfl) dX9_isOf_29
    · rw [if_pos c_106] at h
      refine lv_iconst (v := 1) hx hb dX9_isOf_24 (by decide) ?_
      refine lv_goto (tgt := 29) hx hb dX9_isOf_25 (by decide) ?_
      cases h
      exact e_zret (v := 1) C hr rfl hR hS (Nat.le_of_ble_eq_true rfl) (Nat.le_of_ble_eq_true rfl) dX9_isOf_29
set_option maxHeartbeats 4000000 in
set_option maxRecDepth 100000 in
theorem vX9_isInGroup {l : Launch} {E : EV} {a : Nat → Nat → Nat} {u0 : HS} {x1 : Int32} {x2 : Int32} {x3 : Int32} {x4 : Int32} {out : Int32} (h : mX9_isInGroup u0 x1 x2 x3 x4 = some out) : Ct l E yX9_isInGroup cX9_isInGroup 5 (some .boolean) 1 23 0 0 a u0 [.ref (a 9 0), .int x1, .int x2, .int x3, .int x4] (some (.int out)) u0 := by
  refine Ct.start (by decide) (Nat.le_of_ble_eq_true rfl) ?_
  intro p e s m args below meth c ls C hr hR hS hl
  have C : Cx E p s m args meth c cX9_isInGroup 5 RX9 := C
  have hl : lv_has ls 5 [(0, .ref (a 9 0)), (1, .int x1), (2, .int x2), (3, .int x3), (4, .int x4)] := hl
  have hx := C.1
  have hb := C.2.1
  unfold mX9_isInGroup at h
  refine lv_aload_n hx hb dX9_isInGroup_0 rfl (lv_at hl 0 rfl) ?_
  refine lv_iload_n hx hb dX9_isInGroup_1 rfl (lv_at hl 1 rfl) ?_
  refine lv_iload_n hx hb dX9_isInGroup_2 rfl (lv_at hl 2 rfl) ?_
  refine lv_iload_n hx hb dX9_isInGroup_3 rfl (lv_at hl 3 rfl) ?_
  obtain ⟨x102, hc101, h⟩ := ob h
  refine r_callV1 (As := [.int x1, .int x2, .int x3]) (rest := []) (r := 9) (i := 0) C (vX9_isOf hc101) hR hS (lv0 (by decide) (by decide)) (by decide) ml_X9_381 mw_X9_isOf rfl ⟨Nat.le_of_ble_eq_true rfl, Nat.le_of_ble_eq_true rfl, Nat.le_of_ble_eq_true rfl, Nat.le_of_ble_eq_true rfl⟩ hl.1 rfl (Nat.le_of_ble_eq_true rfl) dX9_isInGroup_4 (fun H locs hR hS => ?_)
  refine lv_if_eq (tgt := 40) hx hb dX9_isInGroup_7 (by decide) (fun c_103 => ?_) (fun c_103 => ?_)
  · rw [if_pos c_103] at h
    refine lv_iconst (v := 0) hx hb dX9_isInGroup_40 (by decide) ?_
    cases h
    exact e_zret (v := 0) C hr rfl hR hS (Nat.le_of_ble_eq_true rfl) (Nat.le_of_ble_eq_true rfl) dX9_isInGroup_41
  · rw [if_neg c_103] at h
    refine lv_aload_n hx hb dX9_isInGroup_10 rfl (lv_at hl 0 rfl) ?_
    refine r_get C hR 9 0 33 (v := .ref (a 80 0)) (lv0 (by decide) (by decide)) (by decide) (by decide) rfl fl_X9_61 dX9_isInGroup_11 ?_
    refine lv_iload_n hx hb dX9_isInGroup_14 rfl (lv_at hl 1 rfl) ?_
    obtain ⟨k104, hk104, h⟩ := ob h
    have hLk104 : k104 < cntS 81 := by have q1 := (ck_in hk104).2.2; have q2 : cntS 81 = 15 := rfl; omega
    refine r_aald C hR 80 0 81 0 6 (lv0 (by decide) (by decide)) (by decide) rfl rfl rfl (fun _ => rfl) rfl hk104 dX9_isInGroup_15 ?_
    refine lv_iconst (v := 2) hx hb dX9_isInGroup_16 (by decide) ?_
    obtain ⟨k105, hk105, h⟩ := ob h
    refine r_ald C hR 81 k104 (lv0 hLk104 (by decide)) (by decide) rfl (fun _ => rfl) rfl hk105 dX9_isInGroup_17 ?_
    refine lv_if_ne (tgt := 40) hx hb dX9_isInGroup_18 (by decide) (fun c_106 => ?_) (fun c_106 => ?_)
    · rw [if_neg c_106] at h
      refine lv_iconst (v := 0) hx hb dX9_isInGroup_40 (by decide) ?_
      cases h
      exact e_zret (v := 0) C hr rfl hR hS (Nat.le_of_ble_eq_true rfl) (Nat.le_of_ble_eq_true rfl) dX9_isInGroup_41
    · rw [if_pos c_106] at h
      refine lv_aload_n hx hb dX9_isInGroup_21 rfl (lv_at hl 0 rfl) ?_
      refine r_get C hR 9 0 33 (v := .ref (a 80 0)) (lv0 (by decide) (by decide)) (by decide) (by decide) rfl fl_X9_61 dX9_isInGroup_22 ?_
      refine lv_iload_n hx hb dX9_isInGroup_25 rfl (lv_at hl 1 rfl) ?_
      obtain ⟨k107, hk107, h⟩ := ob h
      have hLk107 : k107 < cntS 81 := by have q1 := (ck_in hk107).2.2; have q2 : cntS 81 = 15 := rfl; omega
      refine r_aald C hR 80 0 81 0 6 (lv0 (by decide) (by decide)) (by decide) rfl rfl rfl (fun _ => rfl) rfl hk107 dX9_isInGroup_26 ?_
      refine lv_iconst (v := 3) hx hb dX9_isInGroup_27 (by decide) ?_
      refine lv_iload hx hb dX9_isInGroup_28 (lv_at hl 4 rfl) ?_
      refine lv_iadd hx hb dX9_isInGroup_30 ?_
      obtain ⟨k108, hk108, h⟩ := ob h
      refine r_ald C hR 81 k107 (lv0 hLk107 (by decide)) (by decide) rfl (fun _ => rfl) rfl hk108 dX9_isInGroup_31 ?_
      refine lv_iconst (v := (-1)) hx hb dX9_isInGroup_32 (by decide) ?_
      refine lv_icmp_eq (tgt := 40) hx hb dX9_isInGroup_33 (by decide) (fun c_109 => ?_) (fun c_109 => ?_)
      · rw [if_pos c_109] at h
        refine lv_iconst (v := 0) hx hb dX9_isInGroup_40 (by decide) ?_
        cases h
        exact e_zret (v := 0) C hr rfl hR hS (Nat.le_of_ble_eq_true rfl) (Nat.le_of_ble_eq_true rfl) dX9_isInGroup_41
      · rw [if_neg c_109] at h
        refine lv_iconst (v := 1) hx hb dX9_isInGroup_36 (by decide) ?_
        refine lv_goto (tgt := 41) hx hb dX9_isInGroup_37 (by decide) ?_
        cases h
        exact e_zret (v := 1) C hr rfl hR hS (Nat.le_of_ble_eq_true rfl) (Nat.le_of_ble_eq_true rfl) dX9_isInGroup_41
