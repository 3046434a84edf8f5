set_option maxHeartbeats 4000000 in
set_option maxRecDepth 100000 in
theorem vX8_changeSeen {l : Launch} {E : EV} {a : Nat → Nat → Nat} {u0 : HS} {x1 : Int32} {x2 : Int32} {out : (Int32 × HS)} (h : mX8_changeSeen u0 x1 x2 = some out) : Ct l E yX8_changeSeen cX8_changeSeen 4 (some .int) 5 114 0 0 a u0 [.ref (a 8 0), .int x1, .int x2] (some (.int out.1)) out.2 := by
  refine Ct.start (by decide) (Nat.le_of_ble_eq_true rfl) ?_
  intro p e s m args below meth c ls C hr hR hS hl
  have C : Cx E p s m args meth c cX8_changeSeen 4 RX8 := C
  have hl : lv_has ls 4 [(0, .ref (a 8 0)), (1, .int x1), (2, .int x2)] := hl
  have hx := C.1
  have hb := C.2.1
  unfold mX8_changeSeen at h
  refine lv_aload_n hx hb dX8_changeSeen_0 rfl (lv_at hl 0 rfl) ?_
  refine lv_iload_n hx hb dX8_changeSeen_1 rfl (lv_at hl 2 rfl) ?_
  obtain ⟨k102, hc101, h⟩ := ob h
  have hLk102 : k102 < cntS 3 := vX8_sceneFor_lt hc101
  refine r_callV1 (As := [.int x2]) (rest := []) (r := 8) (i := 0) C (vX8_sceneFor hc101) hR hS (lv0 (by decide) (by decide)) (by decide) ml_X8_216 mw_X8_sceneFor rfl ⟨Nat.le_of_ble_eq_true rfl, Nat.le_of_ble_eq_true rfl, Nat.le_of_ble_eq_true rfl, Nat.le_of_ble_eq_true rfl⟩ hl.1 rfl (Nat.le_of_ble_eq_true rfl) dX8_changeSeen_2 (fun H locs hR hS => ?_)
  refine lv_astore_n (lv' := [(3, .ref (a 3 k102)), (0, .ref (a 8 0)), (1, .int x1), (2, .int x2)]) hx hb dX8_changeSeen_5 rfl hl (by decide) rfl (fun ls hl => ?_)
  refine lv_aload_n hx hb dX8_changeSeen_6 rfl (lv_at hl 0 rfl) ?_
  refine r_get C hR 3 k102 10 (v := .int (gI u0 3 k102 10)) (lv0 hLk102 (by decide)) (by decide) (by decide) rfl fl_X8_146 dX8_changeSeen_7 ?_
  refine lv_iconst (v := (-1)) hx hb dX8_changeSeen_10 (by decide) ?_
  refine lv_icmp_ne (tgt := 16) hx hb dX8_changeSeen_11 (by decide) (fun c_103 => ?_) (fun c_103 => ?_)
  · rw [if_neg c_103] at h
    refine lv_aload_n hx hb dX8_changeSeen_16 rfl (lv_at hl 1 rfl) ?_
    refine lv_iload_n hx hb dX8_changeSeen_17 rfl (lv_at hl 3 rfl) ?_
    refine lv_aload_n hx hb dX8_changeSeen_18 rfl (lv_at hl 0 rfl) ?_
    refine r_get C hR 3 k102 11 (v := .int (gI u0 3 k102 11)) (lv0 hLk102 (by decide)) (by decide) (by decide) rfl fl_X8_140 dX8_changeSeen_19 ?_
    obtain ⟨u105, hc104, h⟩ := ob h
    refine r_callV0 (As := [.int x2, .int (gI u0 3 k102 11)]) (rest := []) (r := 8) (i := 0) C (vX8_lookAs hc104) hR hS (lv0 (by decide) (by decide)) (by decide) ml_X8_209 mw_X8_lookAs rfl ⟨Nat.le_of_ble_eq_true rfl, Nat.le_of_ble_eq_true rfl, Nat.le_of_ble_eq_true rfl, Nat.le_of_ble_eq_true rfl⟩ hl.1 rfl (Nat.le_of_ble_eq_true rfl) dX8_changeSeen_22 (fun H locs hR hS => ?_)
    refine lv_aload_n hx hb dX8_changeSeen_25 rfl (lv_at hl 1 rfl) ?_
    refine r_get C hR 8 0 12 (v := .ref (a 4 0)) (lv0 (by decide) (by decide)) (by decide) (by decide) rfl fl_X8_79 dX8_changeSeen_26 ?_
    obtain ⟨u107, hc106, h⟩ := ob h
    refine r_callV0 (As := []) (rest := []) (r := 4) (i := 0) C (vX4_heedChangesAlone hc106) hR hS (lv0 (by decide) (by decide)) (by decide) ml_X8_395 mw_X4_heedChangesAlone rfl ⟨Nat.le_of_ble_eq_true rfl, Nat.le_of_ble_eq_true rfl, Nat.le_of_ble_eq_true rfl, Nat.le_of_ble_eq_true rfl⟩ hl.1 rfl (Nat.le_of_ble_eq_true rfl) dX8_changeSeen_29 (fun H locs hR hS => ?_)
    refine lv_aload_n hx hb dX8_changeSeen_32 rfl (lv_at hl 1 rfl) ?_
    refine r_get C hR 8 0 12 (v := .ref (a 4 0)) (lv0 (by decide) (by decide)) (by decide) (by decide) rfl fl_X8_79 dX8_changeSeen_33 ?_
    refine lv_aload_n hx hb dX8_changeSeen_36 rfl (lv_at hl 1 rfl) ?_
    refine r_get C hR 8 0 5 (v := .ref (a 52 0)) (lv0 (by decide) (by decide)) (by decide) (by decide) rfl fl_X8_37 dX8_changeSeen_37 ?_
    refine lv_iload_n hx hb dX8_changeSeen_40 rfl (lv_at hl 2 rfl) ?_
    obtain ⟨k108, hk108, h⟩ := ob h
    have hLk108 : k108 < cntS 1 := by have q1 := (ck_in hk108).2.2; have q2 : cntS 1 = 5 := rfl; omega
    refine r_aald C hR 52 0 1 0 4 (lv0 (by decide) (by decide)) (by decide) rfl rfl rfl (fun _ => rfl) rfl hk108 dX8_changeSeen_41 ?_
    refine lv_aload_n hx hb dX8_changeSeen_42 rfl (lv_at hl 0 rfl) ?_
    refine r_get C hR 3 k102 10 (v := .int (gI u107 3 k102 10)) (lv0 hLk102 (by decide)) (by decide) (by decide) rfl fl_X8_146 dX8_changeSeen_43 ?_
    obtain ⟨⟨x110, u111⟩, hc109, h⟩ := ob h
    replace h := bd_x (x := x110) rfl h
    replace h := bd_x (x := u111) rfl h
    refine r_callV1 (As := [.ref (a 1 k108), .int (gI u107 3 k102 10)]) (rest := []) (r := 4) (i := 0) C (vX4_firstSeen hLk108 hc109) hR hS (lv0 (by decide) (by decide)) (by decide) ml_X8_243 mw_X4_firstSeen rfl ⟨Nat.le_of_ble_eq_true rfl, Nat.le_of_ble_eq_true rfl, Nat.le_of_ble_eq_true rfl, Nat.le_of_ble_eq_true rfl⟩ hl.1 rfl (Nat.le_of_ble_eq_true rfl) dX8_changeSeen_46 (fun H locs hR hS => ?_)
    cases h
    exact e_iret C hr hR hS (Nat.le_of_ble_eq_true rfl) (Nat.le_of_ble_eq_true rfl) dX8_changeSeen_49
  · rw [if_pos c_103] at h
    refine lv_iconst (v := (-1)) hx hb dX8_changeSeen_14 (by decide) ?_
    cases h
    exact e_iret C hr hR hS (Nat.le_of_ble_eq_true rfl) (Nat.le_of_ble_eq_true rfl) dX8_changeSeen_15
set_option maxHeartbeats 4000000 in
set_option maxRecDepth 100000 in
theorem vX8_wasOnIt {l : Launch} {E : EV} {a : Nat → Nat → Nat} {u0 : HS} {x1 : Int32} {out : (Int32 × HS)} (h : mX8_wasOnIt u0 x1 = some out) : Ct l E yX8_wasOnIt cX8_wasOnIt 2 (some .boolean) 5 114 0 0 a u0 [.ref (a 8 0), .int x1] (some (.int out.1)) out.2 := by
  refine Ct.start (by decide) (Nat.le_of_ble_eq_true rfl) ?_
  intro p e s m args below meth c ls C hr hR hS hl
  have C : Cx E p s m args meth c cX8_wasOnIt 2 RX8 := C
  have hl : lv_has ls 2 [(0, .ref (a 8 0)), (1, .int x1)] := hl
  have hx := C.1
  have hb := C.2.1
  unfold mX8_wasOnIt at h
  refine lv_aload_n hx hb dX8_wasOnIt_0 rfl (lv_at hl 0 rfl) ?_
  refine lv_iload_n hx hb dX8_wasOnIt_1 rfl (lv_at hl 1 rfl) ?_
  refine lv_aload_n hx hb dX8_wasOnIt_2 rfl (lv_at hl 0 rfl) ?_
  refine lv_iload_n hx hb dX8_wasOnIt_3 rfl (lv_at hl 1 rfl) ?_
  obtain ⟨k102, hc101, h⟩ := ob h
  have hLk102 : k102 < cntS 3 := vX8_sceneFor_lt hc101
  refine r_callV1 (As := [.int x1]) (rest := [.int x1, .ref (a 8 0)]) (r := 8) (i := 0) C (vX8_sceneFor hc101) hR hS (lv0 (by decide) (by decide)) (by decide) ml_X8_216 mw_X8_sceneFor rfl ⟨Nat.le_of_ble_eq_true rfl, Nat.le_of_ble_eq_true rfl, Nat.le_of_ble_eq_true rfl, Nat.le_of_ble_eq_true rfl⟩ hl.1 rfl (Nat.le_of_ble_eq_true rfl) dX8_wasOnIt_4 (fun H locs hR hS => ?_)
  refine r_get C hR 3 k102 11 (v := .int (gI u0 3 k102 11)) (lv0 hLk102 (by decide)) (by decide) (by decide) rfl fl_X8_140 dX8_wasOnIt_7 ?_
  obtain ⟨u104, hc103, h⟩ := ob h
  refine r_callV0 (As := [.int x1, .int (gI u0 3 k102 11)]) (rest := []) (r := 8) (i := 0) C (vX8_lookAs hc103) hR hS (lv0 (by decide) (by decide)) (by decide) ml_X8_209 mw_X8_lookAs rfl ⟨Nat.le_of_ble_eq_true rfl, Nat.le_of_ble_eq_true rfl, Nat.le_of_ble_eq_true rfl, Nat.le_of_ble_eq_true rfl⟩ hl.1 rfl (Nat.le_of_ble_eq_true rfl) dX8_wasOnIt_10 (fun H locs hR hS => ?_)
  refine lv_aload_n hx hb dX8_wasOnIt_13 rfl (lv_at hl 0 rfl) ?_
  refine r_get C hR 8 0 11 (v := .ref (a 7 0)) (lv0 (by decide) (by decide)) (by decide) (by decide) rfl fl_X8_70 dX8_wasOnIt_14 ?_
  refine lv_iconst (v := 2) hx hb dX8_wasOnIt_17 (by decide) ?_
  obtain ⟨x106, hc105, h⟩ := ob h
  refine r_callV1 (As := [.int 2]) (rest := []) (r := 7) (i := 0) C (vX7_tenthsWithin hc105) hR hS (lv0 (by decide) (by decide)) (by decide) ml_X8_220 mw_X7_tenthsWithin rfl ⟨Nat.le_of_ble_eq_true rfl, Nat.le_of_ble_eq_true rfl, Nat.le_of_ble_eq_true rfl, Nat.le_of_ble_eq_true rfl⟩ hl.1 rfl (Nat.le_of_ble_eq_true rfl) dX8_wasOnIt_18 (fun H locs hR hS => ?_)
  refine lv_if_le (tgt := 28) hx hb dX8_wasOnIt_21 (by decide) (fun c_107 => ?_) (fun c_107 => ?_)
  · rw [if_pos c_107] at h
    refine lv_iconst (v := 0) hx hb dX8_wasOnIt_28 (by decide) ?_
    cases h
    exact e_zret (v := 0) C hr rfl hR hS (Nat.le_of_ble_eq_true rfl) (Nat.le_of_ble_eq_true rfl) dX8_wasOnIt_29
  · rw [if_neg c_107] at h
    refine lv_iconst (v := 1) hx hb dX8_wasOnIt_24 (by decide) ?_
    refine lv_goto (tgt := 29) hx hb dX8_wasOnIt_25 (by decide) ?_
    cases h
    exact e_zret (v := 1) C hr rfl hR hS (Nat.le_of_ble_eq_true rfl) (Nat.le_of_ble_eq_true rfl) dX8_wasOnIt_29
set_option maxHeartbeats 4000000 in
set_option maxRecDepth 100000 in
theorem vX8_lostBy {l : Launch} {E : EV} {a : Nat → Nat → Nat} {u0 : HS} {x1 : Int32} {out : Int32} (h : mX8_lostBy u0 x1 = some out) : Ct l E yX8_lostBy cX8_lostBy 3 (some .int) 2 45 0 0 a u0 [.ref (a 8 0), .int x1] (some (.int out)) u0 := by
  refine Ct.start (by decide) (Nat.le_of_ble_eq_true rfl) ?_
  intro p e s m args below meth c ls C hr hR hS hl
  have C : Cx E p s m args meth c cX8_lostBy 3 RX8 := C
  have hl : lv_has ls 3 [(0, .ref (a 8 0)), (1, .int x1)] := hl
  have hx := C.1
  have hb := C.2.1
  unfold mX8_lostBy at h
  refine lv_aload_n hx hb dX8_lostBy_0 rfl (lv_at hl 0 rfl) ?_
  refine r_get C hR 8 0 3 (v := .ref (a 51 0)) (lv0 (by decide) (by decide)) (by decide) (by decide) rfl fl_X8_28 dX8_lostBy_1 ?_
  refine lv_aload_n hx hb dX8_lostBy_4 rfl (lv_at hl 0 rfl) ?_
  refine r_get C hR 8 0 8 (v := .ref (a 0 0)) (lv0 (by decide) (by decide)) (by decide) (by decide) rfl fl_X8_56 dX8_lostBy_5 ?_
  refine r_get C hR 0 0 2 (v := .ref (a 21 0)) (lv0 (by decide) (by decide)) (by decide) (by decide) rfl fl_X8_379 dX8_lostBy_8 ?_
  refine lv_iload_n hx hb dX8_lostBy_11 rfl (lv_at hl 1 rfl) ?_
  obtain ⟨k101, hk101, h⟩ := ob h
  refine r_ald C hR 21 0 (lv0 (by decide) (by decide)) (by decide) rfl (fun _ => rfl) rfl hk101 dX8_lostBy_12 ?_
  obtain ⟨k102, hk102, h⟩ := ob h
  have hLk102 : k102 < cntS 6 := by have q1 := (ck_in hk102).2.2; have q2 : cntS 6 = 7 := rfl; omega
  refine r_aald C hR 51 0 6 0 3 (lv0 (by decide) (by decide)) (by decide) rfl rfl rfl (fun _ => rfl) rfl hk102 dX8_lostBy_13 ?_
  refine r_get C hR 6 k102 2 (v := .int (gI u0 6 k102 2)) (lv0 hLk102 (by decide)) (by decide) (by decide) rfl fl_X8_179 dX8_lostBy_14 ?_
  refine lv_topi (fun x103 ex103 => ?_)
  replace h := bd_x ex103 h
  refine lv_istore_n (lv' := [(2, .int x103), (0, .ref (a 8 0)), (1, .int x1)]) hx hb dX8_lostBy_17 rfl hl (by decide) rfl (fun ls hl => ?_)
  refine lv_iload_n hx hb dX8_lostBy_18 rfl (lv_at hl 0 rfl) ?_
  refine lv_iconst (v := (-1)) hx hb dX8_lostBy_19 (by decide) ?_
  refine lv_icmp_eq (tgt := 36) hx hb dX8_lostBy_20 (by decide) (fun c_104 => ?_) (fun c_104 => ?_)
  · rw [if_pos c_104] at h
    refine lv_iconst (v := (-1)) hx hb dX8_lostBy_36 (by decide) ?_
    cases h
    exact e_iret C hr hR hS (Nat.le_of_ble_eq_true rfl) (Nat.le_of_ble_eq_true rfl) dX8_lostBy_37
  · rw [if_neg c_104] at h
    refine lv_aload_n hx hb dX8_lostBy_23 rfl (lv_at hl 1 rfl) ?_
    refine r_get C hR 8 0 8 (v := .ref (a 0 0)) (lv0 (by decide) (by decide)) (by decide) (by decide) rfl fl_X8_56 dX8_lostBy_24 ?_
    refine r_get C hR 0 0 5 (v := .ref (a 23 0)) (lv0 (by decide) (by decide)) (by decide) (by decide) rfl fl_X8_283 dX8_lostBy_27 ?_
    refine lv_iload_n hx hb dX8_lostBy_30 rfl (lv_at hl 2 rfl) ?_
    obtain ⟨k105, hk105, h⟩ := ob h
    refine r_ald C hR 23 0 (lv0 (by decide) (by decide)) (by decide) rfl (fun _ => rfl) rfl hk105 dX8_lostBy_31 ?_
    refine lv_iconst (v := (-1)) hx hb dX8_lostBy_32 (by decide) ?_
    refine lv_icmp_ne (tgt := 38) hx hb dX8_lostBy_33 (by decide) (fun c_106 => ?_) (fun c_106 => ?_)
    · rw [if_neg c_106] at h
      refine lv_aload_n hx hb dX8_lostBy_38 rfl (lv_at hl 1 rfl) ?_
      refine lv_iload_n hx hb dX8_lostBy_39 rfl (lv_at hl 2 rfl) ?_
      obtain ⟨k108, hc107, h⟩ := ob h
      have hLk108 : k108 < cntS 3 := vX8_sceneFor_lt hc107
      refine r_callV1 (As := [.int x1]) (rest := []) (r := 8) (i := 0) C (vX8_sceneFor hc107) hR hS (lv0 (by decide) (by decide)) (by decide) ml_X8_216 mw_X8_sceneFor rfl ⟨Nat.le_of_ble_eq_true rfl, Nat.le_of_ble_eq_true rfl, Nat.le_of_ble_eq_true rfl, Nat.le_of_ble_eq_true rfl⟩ hl.1 rfl (Nat.le_of_ble_eq_true rfl) dX8_lostBy_40 (fun H locs hR hS => ?_)
      refine lv_iload_n hx hb dX8_lostBy_43 rfl (lv_at hl 0 rfl) ?_
      obtain ⟨x110, hc109, h⟩ := ob h
      refine r_callV1 (As := [.int x103]) (rest := []) (r := 3) (i := k108) C (vX3_throwsFrom hLk108 hc109) hR hS (lv0 hLk108 (by decide)) (by decide) ml_X8_188 mw_X3_throwsFrom rfl ⟨Nat.le_of_ble_eq_true rfl, Nat.le_of_ble_eq_true rfl, Nat.le_of_ble_eq_true rfl, Nat.le_of_ble_eq_true rfl⟩ hl.1 rfl (Nat.le_of_ble_eq_true rfl) dX8_lostBy_44 (fun H locs hR hS => ?_)
      refine lv_aload_n hx hb dX8_lostBy_47 rfl (lv_at hl 1 rfl) ?_
      refine r_get C hR 8 0 8 (v := .ref (a 0 0)) (lv0 (by decide) (by decide)) (by decide) (by decide) rfl fl_X8_56 dX8_lostBy_48 ?_
      refine r_get C hR 0 0 5 (v := .ref (a 23 0)) (lv0 (by decide) (by decide)) (by decide) (by decide) rfl fl_X8_283 dX8_lostBy_51 ?_
      refine lv_iload_n hx hb dX8_lostBy_54 rfl (lv_at hl 2 rfl) ?_
      obtain ⟨k111, hk111, h⟩ := ob h
      refine r_ald C hR 23 0 (lv0 (by decide) (by decide)) (by decide) rfl (fun _ => rfl) rfl hk111 dX8_lostBy_55 ?_
      refine lv_isub hx hb dX8_lostBy_56 ?_
      refine r_abs C hl.1 ml_X8_398 (Nat.le_of_ble_eq_true rfl) (Nat.le_of_ble_eq_true rfl) (Nat.le_of_ble_eq_true rfl) (Nat.le_of_ble_eq_true rfl) dX8_lostBy_57 ?_
      refine lv_topi (fun x112 ex112 => ?_)
      replace h := bd_x ex112 h
      cases h
      exact e_iret C hr hR hS (Nat.le_of_ble_eq_true rfl) (Nat.le_of_ble_eq_true rfl) dX8_lostBy_60
    · rw [if_pos c_106] at h
      refine lv_iconst (v := (-1)) hx hb dX8_lostBy_36 (by decide) ?_
      cases h
      exact e_iret C hr hR hS (Nat.le_of_ble_eq_true rfl) (Nat.le_of_ble_eq_true rfl) dX8_lostBy_37
set_option maxHeartbeats 4000000 in
set_option maxRecDepth 100000 in
theorem vX8_lostTogether {l : Launch} {E : EV} {a : Nat → Nat → Nat} {u0 : HS} {x1 : Int32} {x2 : Int32} {out : Int32} (h : mX8_lostTogether u0 x1 x2 = some out) : Ct l E yX8_lostTogether cX8_lostTogether 5 (some .int) 3 67 0 0 a u0 [.ref (a 8 0), .int x1, .int x2] (some (.int out)) u0 := by
  refine Ct.start (by decide) (Nat.le_of_ble_eq_true rfl) ?_
  intro p e s m args below meth c ls C hr hR hS hl
  have C : Cx E p s m args meth c cX8_lostTogether 5 RX8 := C
  have hl : lv_has ls 5 [(0, .ref (a 8 0)), (1, .int x1), (2, .int x2)] := hl
  have hx := C.1
  have hb := C.2.1
  unfold mX8_lostTogether at h
  refine lv_iconst (v := 0) hx hb dX8_lostTogether_0 (by decide) ?_
  refine lv_istore_n (lv' := [(3, .int 0), (0, .ref (a 8 0)), (1, .int x1), (2, .int x2)]) hx hb dX8_lostTogether_1 rfl hl (by decide) rfl (fun ls hl => ?_)
  refine lv_iconst (v := 0) hx hb dX8_lostTogether_2 (by decide) ?_
  refine lv_istore (lv' := [(4, .int 0), (3, .int 0), (0, .ref (a 8 0)), (1, .int x1), (2, .int x2)]) hx hb dX8_lostTogether_3 hl (by decide) rfl (fun ls hl => ?_)
  refine jp_cut h (fun w104 hw104 h => ?_)
  have Kw104 : ∀ (x103 : Int32) (H : Heap) (locs : List Loc) (ls : Array Slot), w104 x103 = some out → Rel E a u0 H → va_S (AE E) s.heap H locs → lv_has ls 5 [(3, .int x103)] → W p l e { frames := 3, cells := 0, slots := 0, locals := 67 } s m args below meth c H locs 0 0 (MQ below (QW E a (some (.int out)) u0) args s 0 0 (AE E)) (F0 m 46 ls []) := by
    intro x103 H locs ls h hR hS hl
    replace h := jx1 hw104 h
    refine lv_iload_n hx hb dX8_lostTogether_46 rfl (lv_at hl 0 rfl) ?_
    cases h
    exact e_iret C hr hR hS (Nat.le_of_ble_eq_true rfl) (Nat.le_of_ble_eq_true rfl) dX8_lostTogether_47
  have LP : ∀ (fu : Nat) (x101 : Int32) (x102 : Int32) (H : Heap) (locs : List Loc) (ls : Array Slot), mX8_lostTogether_L5 u0 x1 x2 w104 fu x101 x102 = some out → Rel E a u0 H → va_S (AE E) s.heap H locs → lv_has ls 5 [(0, .ref (a 8 0)), (1, .int x1), (2, .int x2), (3, .int x101), (4, .int x102)] → W p l e { frames := 3, cells := 0, slots := 0, locals := 67 } s m args below meth c H locs 0 0 (MQ below (QW E a (some (.int out)) u0) args s 0 0 (AE E)) (F0 m 5 ls []) := by
    intro fu
    induction fu with
    | zero =>
      intro x101 x102 H locs ls h
      have h2 : (none : Option Int32) = some out := h
      cases h2
    | succ fu ih =>
      intro x101 x102 H locs ls h hR hS hl
      rw [mX8_lostTogether_L5.eq_2] at h
      refine lv_iload hx hb dX8_lostTogether_5 (lv_at hl 4 rfl) ?_
      refine lv_aload_n hx hb dX8_lostTogether_7 rfl (lv_at hl 0 rfl) ?_
      refine r_get C hR 8 0 8 (v := .ref (a 0 0)) (lv0 (by decide) (by decide)) (by decide) (by decide) rfl fl_X8_56 dX8_lostTogether_8 ?_
      refine r_get C hR 0 0 0 (v := .int (gI u0 0 0 0)) (lv0 (by decide) (by decide)) (by decide) (by decide) rfl fl_X8_268 dX8_lostTogether_11 ?_
      refine lv_icmp_ge (tgt := 46) hx hb dX8_lostTogether_14 (by decide) (fun c_105 => ?_) (fun c_105 => ?_)
      · rw [if_pos c_105] at h
        exact Kw104 _ _ _ _ h hR hS (lv_sub hl [3] rfl)
      · rw [if_neg c_105] at h
        refine lv_aload_n hx hb dX8_lostTogether_17 rfl (lv_at hl 0 rfl) ?_
        refine r_get C hR 8 0 8 (v := .ref (a 0 0)) (lv0 (by decide) (by decide)) (by decide) (by decide) rfl fl_X8_56 dX8_lostTogether_18 ?_
        refine lv_iload hx hb dX8_lostTogether_21 (lv_at hl 4 rfl) ?_
        refine lv_iload_n hx hb dX8_lostTogether_23 rfl (lv_at hl 1 rfl) ?_
        refine lv_iload_n hx hb dX8_lostTogether_24 rfl (lv_at hl 2 rfl) ?_
        obtain ⟨x107, hc106, h⟩ := ob h
        refine r_callV1 (As := [.int x102, .int x1, .int x2]) (rest := []) (r := 0) (i := 0) C (vX0_hasTallied (by decide) hc106) hR hS (lv0 (by decide) (by decide)) (by decide) ml_X8_401 mw_X0_hasTallied rfl ⟨Nat.le_of_ble_eq_true rfl, Nat.le_of_ble_eq_true rfl, Nat.le_of_ble_eq_true rfl, Nat.le_of_ble_eq_true rfl⟩ hl.1 rfl (Nat.le_of_ble_eq_true rfl) dX8_lostTogether_25 (fun H locs hR hS => ?_)
        obtain ⟨x108, hz, h⟩ := ob h
        have Kj109 : ∀ (H : Heap) (locs : List Loc) (ls : Array Slot), Rel E a u0 H → va_S (AE E) s.heap H locs → lv_has ls 5 [(0, .ref (a 8 0)), (1, .int x1), (2, .int x2), (3, .int x108), (4, .int x102)] → W p l e { frames := 3, cells := 0, slots := 0, locals := 67 } s m args below meth c H locs 0 0 (MQ below (QW E a (some (.int out)) u0) args s 0 0 (AE E)) (F0 m 40 ls []) := by
          intro H locs ls hR hS hl
          clear hz
          obtain ⟨x110, ex110⟩ : ∃ z : Int32, z = x102 + 1 := ⟨_, rfl⟩
          replace h := bd_x ex110 h
          refine lv_iinc (v := x110) (lv' := [(4, .int x110), (0, .ref (a 8 0)), (1, .int x1), (2, .int x2), (3, .int x108)]) hx hb dX8_lostTogether_40 hl (k := 4) rfl (by rw [ex110]; rfl) (by decide) rfl (fun ls hl => ?_)
          refine lv_goto (tgt := 5) hx hb dX8_lostTogether_43 (by decide) ?_
          exact ih _ _ _ _ _ h hR hS (lv_sub hl [1, 2, 3, 4, 0] rfl)
        clear h
        have h := hz
        clear hz
        refine lv_if_eq (tgt := 40) hx hb dX8_lostTogether_28 (by decide) (fun c_111 => ?_) (fun c_111 => ?_)
        · rw [if_pos c_111] at h
          cases h
          exact Kj109 _ _ _ hR hS (lv_sub hl [0, 1, 2, 3, 4] rfl)
        · rw [if_neg c_111] at h
          refine lv_iload_n hx hb dX8_lostTogether_31 rfl (lv_at hl 3 rfl) ?_
          refine lv_aload_n hx hb dX8_lostTogether_32 rfl (lv_at hl 0 rfl) ?_
          refine lv_iload hx hb dX8_lostTogether_33 (lv_at hl 4 rfl) ?_
          obtain ⟨x113, hc112, h⟩ := ob h
          refine r_callV1 (As := [.int x102]) (rest := [.int x101]) (r := 8) (i := 0) C (vX8_lostBy hc112) hR hS (lv0 (by decide) (by decide)) (by decide) ml_X8_321 mw_X8_lostBy rfl ⟨Nat.le_of_ble_eq_true rfl, Nat.le_of_ble_eq_true rfl, Nat.le_of_ble_eq_true rfl, Nat.le_of_ble_eq_true rfl⟩ hl.1 rfl (Nat.le_of_ble_eq_true rfl) dX8_lostTogether_35 (fun H locs hR hS => ?_)
          refine lv_iadd hx hb dX8_lostTogether_38 ?_
          refine lv_topi (fun x114 ex114 => ?_)
          replace h := bd_x ex114 h
          refine lv_istore_n (lv' := [(3, .int x114), (0, .ref (a 8 0)), (1, .int x1), (2, .int x2), (4, .int x102)]) hx hb dX8_lostTogether_39 rfl hl (by decide) rfl (fun ls hl => ?_)
          cases h
          exact Kj109 _ _ _ hR hS (lv_sub hl [1, 2, 3, 0, 4] rfl)
  exact LP FU _ _ _ _ _ h hR hS (lv_sub hl [2, 3, 4, 1, 0] rfl)
set_option maxHeartbeats 4000000 in
set_option maxRecDepth 100000 in
theorem vX8_root {l : Launch} {E : EV} {a : Nat → Nat → Nat} {u0 : HS} {x0 : Int32} {out : Int32} (h : mX8_root x0 = some out) : Ct l E yX8_root cX8_root 2 (some .int) 0 0 0 0 a u0 [.int x0] (some (.int out)) u0 := by
  refine Ct.start (by decide) (Nat.le_of_ble_eq_true rfl) ?_
  intro p e s m args below meth c ls C hr hR hS hl
  have C : Cx E p s m args meth c cX8_root 2 RX8 := C
  have hl : lv_has ls 2 [(0, .int x0)] := hl
  have hx := C.1
  have hb := C.2.1
  unfold mX8_root at h
  refine lv_iconst (v := 0) hx hb dX8_root_0 (by decide) ?_
  refine lv_istore_n (lv' := [(1, .int 0), (0, .int x0)]) hx hb dX8_root_1 rfl hl (by decide) rfl (fun ls hl => ?_)
  refine jp_cut h (fun w103 hw103 h => ?_)
  have Kw103 : ∀ (x102 : Int32) (H : Heap) (locs : List Loc) (ls : Array Slot), w103 x102 = some out → Rel E a u0 H → va_S (AE E) s.heap H locs → lv_has ls 2 [(1, .int x102)] → W p l e { frames := 0, cells := 0, slots := 0, locals := 0 } s m args below meth c H locs 0 0 (MQ below (QW E a (some (.int out)) u0) args s 0 0 (AE E)) (F0 m 25 ls []) := by
    intro x102 H locs ls h hR hS hl
    replace h := jx1 hw103 h
    refine lv_iload_n hx hb dX8_root_25 rfl (lv_at hl 0 rfl) ?_
    cases h
    exact e_iret C hr hR hS (Nat.le_of_ble_eq_true rfl) (Nat.le_of_ble_eq_true rfl) dX8_root_26
  have LP : ∀ (fu : Nat) (x101 : Int32) (H : Heap) (locs : List Loc) (ls : Array Slot), mX8_root_L2 x0 w103 fu x101 = some out → Rel E a u0 H → va_S (AE E) s.heap H locs → lv_has ls 2 [(0, .int x0), (1, .int x101)] → W p l e { frames := 0, cells := 0, slots := 0, locals := 0 } s m args below meth c H locs 0 0 (MQ below (QW E a (some (.int out)) u0) args s 0 0 (AE E)) (F0 m 2 ls []) := by
    intro fu
    induction fu with
    | zero =>
      intro x101 H locs ls h
      have h2 : (none : Option Int32) = some out := h
      cases h2
    | succ fu ih =>
      intro x101 H locs ls h hR hS hl
      rw [mX8_root_L2.eq_2] at h
      refine lv_iload_n hx hb dX8_root_2 rfl (lv_at hl 1 rfl) ?_
      refine lv_iconst (v := 1) hx hb dX8_root_3 (by decide) ?_
      refine lv_iadd hx hb dX8_root_4 ?_
      refine lv_iload_n hx hb dX8_root_5 rfl (lv_at hl 1 rfl) ?_
      refine lv_iconst (v := 1) hx hb dX8_root_6 (by decide) ?_
      refine lv_iadd hx hb dX8_root_7 ?_
      refine lv_imul hx hb dX8_root_8 ?_
      refine lv_iload_n hx hb dX8_root_9 rfl (lv_at hl 0 rfl) ?_
      refine lv_icmp_gt (tgt := 25) hx hb dX8_root_10 (by decide) (fun c_104 => ?_) (fun c_104 => ?_)
      · rw [if_pos c_104] at h
        exact Kw103 _ _ _ _ h hR hS (lv_sub hl [1] rfl)
      · rw [if_neg c_104] at h
        refine lv_iload_n hx hb dX8_root_13 rfl (lv_at hl 1 rfl) ?_
        refine lv_bipush (v := 14) hx hb dX8_root_14 (by decide) ?_
        refine lv_icmp_ge (tgt := 25) hx hb dX8_root_16 (by decide) (fun c_105 => ?_) (fun c_105 => ?_)
        · rw [if_pos c_105] at h
          exact Kw103 _ _ _ _ h hR hS (lv_sub hl [1] rfl)
        · rw [if_neg c_105] at h
          obtain ⟨x106, ex106⟩ : ∃ z : Int32, z = x101 + 1 := ⟨_, rfl⟩
          replace h := bd_x ex106 h
          refine lv_iinc (v := x106) (lv' := [(1, .int x106), (0, .int x0)]) hx hb dX8_root_19 hl (k := 1) rfl (by rw [ex106]; rfl) (by decide) rfl (fun ls hl => ?_)
          refine lv_goto (tgt := 2) hx hb dX8_root_22 (by decide) ?_
          exact ih _ _ _ _ h hR hS (lv_sub hl [1, 0] rfl)
  exact LP FU _ _ _ _ h hR hS (lv_sub hl [1, 0] rfl)
set_option maxHeartbeats 4000000 in
set_option maxRecDepth 100000 in
theorem vX8_choose {l : Launch} {E : EV} {a : Nat → Nat → Nat} {u0 : HS} {x0 : Int32} {x1 : Int32} {out : Int32} (h : mX8_choose x0 x1 = some out) : Ct l E yX8_choose cX8_choose 5 (some .int) 0 0 0 0 a u0 [.int x0, .int x1] (some (.int out)) u0 := by
  refine Ct.start (by decide) (Nat.le_of_ble_eq_true rfl) ?_
  intro p e s m args below meth c ls C hr hR hS hl
  have C : Cx E p s m args meth c cX8_choose 5 RX8 := C
  have hl : lv_has ls 5 [(0, .int x0), (1, .int x1)] := hl
  have hx := C.1
  have hb := C.2.1
  unfold mX8_choose at h
  refine lv_iload_n hx hb dX8_choose_0 rfl (lv_at hl 1 rfl) ?_
  refine lv_if_lt (tgt := 9) hx hb dX8_choose_1 (by decide) (fun c_101 => ?_) (fun c_101 => ?_)
  · rw [if_pos c_101] at h
    refine lv_iconst (v := 0) hx hb dX8_choose_9 (by decide) ?_
    cases h
    exact e_iret C hr hR hS (Nat.le_of_ble_eq_true rfl) (Nat.le_of_ble_eq_true rfl) dX8_choose_10
  · rw [if_neg c_101] at h
    refine lv_iload_n hx hb dX8_choose_4 rfl (lv_at hl 1 rfl) ?_
    refine lv_iload_n hx hb dX8_choose_5 rfl (lv_at hl 0 rfl) ?_
    refine lv_icmp_le (tgt := 11) hx hb dX8_choose_6 (by decide) (fun c_102 => ?_) (fun c_102 => ?_)
    · rw [if_pos c_102] at h
      refine lv_lconst (v := 1) hx hb dX8_choose_11 (by decide) ?_
      refine lv_lstore_n (lv' := [(2, .long 1), (0, .int x0), (1, .int x1)]) hx hb dX8_choose_12 rfl hl (by decide) rfl (fun ls hl => ?_)
      refine lv_iconst (v := 1) hx hb dX8_choose_13 (by decide) ?_
      refine lv_istore (lv' := [(4, .int 1), (2, .long 1), (0, .int x0), (1, .int x1)]) hx hb dX8_choose_14 hl (by decide) rfl (fun ls hl => ?_)
      refine jp_cut h (fun w106 hw106 h => ?_)
      have Kw106 : ∀ (y105 : Int64) (H : Heap) (locs : List Loc) (ls : Array Slot), w106 y105 = some out → Rel E a u0 H → va_S (AE E) s.heap H locs → lv_has ls 5 [(2, .long y105)] → W p l e { frames := 0, cells := 0, slots := 0, locals := 0 } s m args below meth c H locs 0 0 (MQ below (QW E a (some (.int out)) u0) args s 0 0 (AE E)) (F0 m 42 ls []) := by
        intro y105 H locs ls h hR hS hl
        replace h := jx1 hw106 h
        refine lv_lload_n hx hb dX8_choose_42 rfl (lv_at hl 0 rfl) ?_
        refine lv_l2i (v := y105.toInt32) hx hb dX8_choose_43 rfl ?_
        cases h
        exact e_iret C hr hR hS (Nat.le_of_ble_eq_true rfl) (Nat.le_of_ble_eq_true rfl) dX8_choose_44
      have LP : ∀ (fu : Nat) (y103 : Int64) (x104 : Int32) (H : Heap) (locs : List Loc) (ls : Array Slot), mX8_choose_L16 x1 x0 w106 fu y103 x104 = some out → Rel E a u0 H → va_S (AE E) s.heap H locs → lv_has ls 5 [(0, .int x0), (1, .int x1), (2, .long y103), (4, .int x104)] → W p l e { frames := 0, cells := 0, slots := 0, locals := 0 } s m args below meth c H locs 0 0 (MQ below (QW E a (some (.int out)) u0) args s 0 0 (AE E)) (F0 m 16 ls []) := by
        intro fu
        induction fu with
        | zero =>
          intro y103 x104 H locs ls h
          have h2 : (none : Option Int32) = some out := h
          cases h2
        | succ fu ih =>
          intro y103 x104 H locs ls h hR hS hl
          rw [mX8_choose_L16.eq_2] at h
          refine lv_iload hx hb dX8_choose_16 (lv_at hl 3 rfl) ?_
          refine lv_iload_n hx hb dX8_choose_18 rfl (lv_at hl 1 rfl) ?_
          refine lv_icmp_gt (tgt := 42) hx hb dX8_choose_19 (by decide) (fun c_107 => ?_) (fun c_107 => ?_)
          · rw [if_pos c_107] at h
            exact Kw106 _ _ _ _ h hR hS (lv_sub hl [2] rfl)
          · rw [if_neg c_107] at h
            refine lv_lload_n hx hb dX8_choose_22 rfl (lv_at hl 2 rfl) ?_
            refine lv_iload_n hx hb dX8_choose_23 rfl (lv_at hl 0 rfl) ?_
            refine lv_iload_n hx hb dX8_choose_24 rfl (lv_at hl 1 rfl) ?_
            refine lv_isub hx hb dX8_choose_25 ?_
            refine lv_iload hx hb dX8_choose_26 (lv_at hl 3 rfl) ?_
            refine lv_iadd hx hb dX8_choose_28 ?_
            refine lv_i2l (v := ((x0 - x1) + x104).toInt64) hx hb dX8_choose_29 rfl ?_
            refine lv_lmul hx hb dX8_choose_30 ?_
            refine lv_iload hx hb dX8_choose_31 (lv_at hl 3 rfl) ?_
            refine lv_i2l (v := x104.toInt64) hx hb dX8_choose_33 rfl ?_
            obtain ⟨_, hn108, h⟩ := ob h
            refine lv_ldiv hx hb dX8_choose_34 (nzL_ne hn108) ?_
            refine lv_topl (fun y109 ey109 => ?_)
            replace h := bd_x ey109 h
            refine lv_lstore_n (lv' := [(2, .long y109), (0, .int x0), (1, .int x1), (4, .int x104)]) hx hb dX8_choose_35 rfl hl (by decide) rfl (fun ls hl => ?_)
            obtain ⟨x110, ex110⟩ : ∃ z : Int32, z = x104 + 1 := ⟨_, rfl⟩
            replace h := bd_x ex110 h
            refine lv_iinc (v := x110) (lv' := [(4, .int x110), (2, .long y109), (0, .int x0), (1, .int x1)]) hx hb dX8_choose_36 hl (k := 3) rfl (by rw [ex110]; rfl) (by decide) rfl (fun ls hl => ?_)
            refine lv_goto (tgt := 16) hx hb dX8_choose_39 (by decide) ?_
            exact ih _ _ _ _ _ h hR hS (lv_sub hl [2, 3, 1, 0] rfl)
      exact LP FU _ _ _ _ _ h hR hS (lv_sub hl [2, 3, 1, 0] rfl)
    · rw [if_neg c_102] at h
      refine lv_iconst (v := 0) hx hb dX8_choose_9 (by decide) ?_
      cases h
      exact e_iret C hr hR hS (Nat.le_of_ble_eq_true rfl) (Nat.le_of_ble_eq_true rfl) dX8_choose_10
set_option maxHeartbeats 4000000 in
set_option maxRecDepth 100000 in
theorem vX8_waysOf {l : Launch} {E : EV} {a : Nat → Nat → Nat} {u0 : HS} {x0 : Int32} {x1 : Int32} {x2 : Int32} {x3 : Int32} {out : Int32} (h : mX8_waysOf x0 x1 x2 x3 = some out) : Ct l E yX8_waysOf cX8_waysOf 8 (some .int) 1 24 0 0 a u0 [.int x0, .int x1, .int x2, .int x3] (some (.int out)) u0 := by
  refine Ct.start (by decide) (Nat.le_of_ble_eq_true rfl) ?_
  intro p e s m args below meth c ls C hr hR hS hl
  have C : Cx E p s m args meth c cX8_waysOf 8 RX8 := C
  have hl : lv_has ls 8 [(0, .int x0), (1, .int x1), (2, .int x2), (3, .int x3)] := hl
  have hx := C.1
  have hb := C.2.1
  unfold mX8_waysOf at h
  refine lv_iload_n hx hb dX8_waysOf_0 rfl (lv_at hl 1 rfl) ?_
  refine lv_iload_n hx hb dX8_waysOf_1 rfl (lv_at hl 3 rfl) ?_
  refine lv_iadd hx hb dX8_waysOf_2 ?_
  refine lv_topi (fun x101 ex101 => ?_)
  replace h := bd_x ex101 h
  refine lv_istore (lv' := [(4, .int x101), (0, .int x0), (1, .int x1), (2, .int x2), (3, .int x3)]) hx hb dX8_waysOf_3 hl (by decide) rfl (fun ls hl => ?_)
  refine lv_iload_n hx hb dX8_waysOf_5 rfl (lv_at hl 1 rfl) ?_
  refine lv_iload_n hx hb dX8_waysOf_6 rfl (lv_at hl 3 rfl) ?_
  refine lv_iadd hx hb dX8_waysOf_7 ?_
  refine lv_iload hx hb dX8_waysOf_8 (lv_at hl 0 rfl) ?_
  refine lv_isub hx hb dX8_waysOf_10 ?_
  refine lv_topi (fun x102 ex102 => ?_)
  replace h := bd_x ex102 h
  refine lv_istore (lv' := [(5, .int x102), (4, .int x101), (0, .int x0), (1, .int x1), (2, .int x2), (3, .int x3)]) hx hb dX8_waysOf_11 hl (by decide) rfl (fun ls hl => ?_)
  refine lv_iconst (v := 0) hx hb dX8_waysOf_13 (by decide) ?_
  refine lv_istore (lv' := [(6, .int 0), (5, .int x102), (4, .int x101), (0, .int x0), (1, .int x1), (2, .int x2), (3, .int x3)]) hx hb dX8_waysOf_14 hl (by decide) rfl (fun ls hl => ?_)
  refine lv_iload_n hx hb dX8_waysOf_16 rfl (lv_at hl 4 rfl) ?_
  refine lv_istore (lv' := [(7, .int x1), (6, .int 0), (5, .int x102), (4, .int x101), (0, .int x0), (1, .int x1), (2, .int x2), (3, .int x3)]) hx hb dX8_waysOf_17 hl (by decide) rfl (fun ls hl => ?_)
  refine jp_cut h (fun w106 hw106 h => ?_)
  have Kw106 : ∀ (x105 : Int32) (H : Heap) (locs : List Loc) (ls : Array Slot), w106 x105 = some out → Rel E a u0 H → va_S (AE E) s.heap H locs → lv_has ls 8 [(6, .int x105)] → W p l e { frames := 1, cells := 0, slots := 0, locals := 24 } s m args below meth c H locs 0 0 (MQ below (QW E a (some (.int out)) u0) args s 0 0 (AE E)) (F0 m 60 ls []) := by
    intro x105 H locs ls h hR hS hl
    replace h := jx1 hw106 h
    refine lv_iload hx hb dX8_waysOf_60 (lv_at hl 0 rfl) ?_
    cases h
    exact e_iret C hr hR hS (Nat.le_of_ble_eq_true rfl) (Nat.le_of_ble_eq_true rfl) dX8_waysOf_62
  have LP : ∀ (fu : Nat) (x103 : Int32) (x104 : Int32) (H : Heap) (locs : List Loc) (ls : Array Slot), mX8_waysOf_L19 x101 x0 x102 w106 fu x103 x104 = some out → Rel E a u0 H → va_S (AE E) s.heap H locs → lv_has ls 8 [(0, .int x0), (4, .int x101), (5, .int x102), (6, .int x103), (7, .int x104)] → W p l e { frames := 1, cells := 0, slots := 0, locals := 24 } s m args below meth c H locs 0 0 (MQ below (QW E a (some (.int out)) u0) args s 0 0 (AE E)) (F0 m 19 ls []) := by
    intro fu
    induction fu with
    | zero =>
      intro x103 x104 H locs ls h
      have h2 : (none : Option Int32) = some out := h
      cases h2
    | succ fu ih =>
      intro x103 x104 H locs ls h hR hS hl
      rw [mX8_waysOf_L19.eq_2] at h
      refine lv_iload hx hb dX8_waysOf_19 (lv_at hl 4 rfl) ?_
      refine lv_iload hx hb dX8_waysOf_21 (lv_at hl 1 rfl) ?_
      refine lv_icmp_gt (tgt := 60) hx hb dX8_waysOf_23 (by decide) (fun c_107 => ?_) (fun c_107 => ?_)
      · rw [if_pos c_107] at h
        exact Kw106 _ _ _ _ h hR hS (lv_sub hl [3] rfl)
      · rw [if_neg c_107] at h
        refine lv_iload hx hb dX8_waysOf_26 (lv_at hl 4 rfl) ?_
        refine lv_iload_n hx hb dX8_waysOf_28 rfl (lv_at hl 0 rfl) ?_
        refine lv_icmp_gt (tgt := 60) hx hb dX8_waysOf_29 (by decide) (fun c_108 => ?_) (fun c_108 => ?_)
        · rw [if_pos c_108] at h
          exact Kw106 _ _ _ _ h hR hS (lv_sub hl [3] rfl)
        · rw [if_neg c_108] at h
          refine lv_iload hx hb dX8_waysOf_32 (lv_at hl 3 rfl) ?_
          refine lv_iload hx hb dX8_waysOf_34 (lv_at hl 1 rfl) ?_
          refine lv_iload hx hb dX8_waysOf_36 (lv_at hl 4 rfl) ?_
          obtain ⟨x110, hc109, h⟩ := ob h
          refine r_callS1 (As := [.int x101, .int x104]) (rest := [.int x103]) C (vX8_choose hc109) hR hS ml_X8_310 ms_X8_choose rfl ⟨Nat.le_of_ble_eq_true rfl, Nat.le_of_ble_eq_true rfl, Nat.le_of_ble_eq_true rfl, Nat.le_of_ble_eq_true rfl⟩ hl.1 rfl (Nat.le_of_ble_eq_true rfl) dX8_waysOf_38 (fun H locs hR hS => ?_)
          refine lv_iload hx hb dX8_waysOf_41 (lv_at hl 2 rfl) ?_
          refine lv_iload_n hx hb dX8_waysOf_43 rfl (lv_at hl 0 rfl) ?_
          refine lv_iload hx hb dX8_waysOf_44 (lv_at hl 4 rfl) ?_
          refine lv_isub hx hb dX8_waysOf_46 ?_
          obtain ⟨x112, hc111, h⟩ := ob h
          refine r_callS1 (As := [.int x102, .int (x0 - x104)]) (rest := [.int x110, .int x103]) C (vX8_choose hc111) hR hS ml_X8_310 ms_X8_choose rfl ⟨Nat.le_of_ble_eq_true rfl, Nat.le_of_ble_eq_true rfl, Nat.le_of_ble_eq_true rfl, Nat.le_of_ble_eq_true rfl⟩ hl.1 rfl (Nat.le_of_ble_eq_true rfl) dX8_waysOf_47 (fun H locs hR hS => ?_)
          refine lv_imul hx hb dX8_waysOf_50 ?_
          refine lv_iadd hx hb dX8_waysOf_51 ?_
          refine lv_topi (fun x113 ex113 => ?_)
          replace h := bd_x ex113 h
          refine lv_istore (lv' := [(6, .int x113), (0, .int x0), (4, .int x101), (5, .int x102), (7, .int x104)]) hx hb dX8_waysOf_52 hl (by decide) rfl (fun ls hl => ?_)
          obtain ⟨x114, ex114⟩ : ∃ z : Int32, z = x104 + 1 := ⟨_, rfl⟩
          replace h := bd_x ex114 h
          refine lv_iinc (v := x114) (lv' := [(7, .int x114), (6, .int x113), (0, .int x0), (4, .int x101), (5, .int x102)]) hx hb dX8_waysOf_54 hl (k := 4) rfl (by rw [ex114]; rfl) (by decide) rfl (fun ls hl => ?_)
          refine lv_goto (tgt := 19) hx hb dX8_waysOf_57 (by decide) ?_
          exact ih _ _ _ _ _ h hR hS (lv_sub hl [2, 3, 4, 1, 0] rfl)
  exact LP FU _ _ _ _ _ h hR hS (lv_sub hl [4, 3, 2, 1, 0] rfl)
set_option maxHeartbeats 4000000 in
set_option maxRecDepth 100000 in
theorem vX8_fitting {l : Launch} {E : EV} {a : Nat → Nat → Nat} {u0 : HS} {x1 : Int32} {out : (Int32 × HS)} (h : mX8_fitting u0 x1 = some out) : Ct l E yX8_fitting cX8_fitting 6 (some .int) 6 145 0 0 a u0 [.ref (a 8 0), .int x1] (some (.int out.1)) out.2 := by
  refine Ct.start (by decide) (Nat.le_of_ble_eq_true rfl) ?_
  intro p e s m args below meth c ls C hr hR hS hl
  have C : Cx E p s m args meth c cX8_fitting 6 RX8 := C
  have hl : lv_has ls 6 [(0, .ref (a 8 0)), (1, .int x1)] := hl
  have hx := C.1
  have hb := C.2.1
  unfold mX8_fitting at h
  refine lv_iconst (v := 0) hx hb dX8_fitting_0 (by decide) ?_
  refine lv_istore_n (lv' := [(2, .int 0), (0, .ref (a 8 0)), (1, .int x1)]) hx hb dX8_fitting_1 rfl hl (by decide) rfl (fun ls hl => ?_)
  refine lv_iconst (v := 0) hx hb dX8_fitting_2 (by decide) ?_
  refine lv_istore_n (lv' := [(3, .int 0), (2, .int 0), (0, .ref (a 8 0)), (1, .int x1)]) hx hb dX8_fitting_3 rfl hl (by decide) rfl (fun ls hl => ?_)
  refine jp_cut h (fun w106 hw106 h => ?_)
  have Kw106 : ∀ (x104 : Int32) (u105 : HS) (H : Heap) (locs : List Loc) (ls : Array Slot), w106 x104 u105 = some out → Rel E a u105 H → va_S (AE E) s.heap H locs → lv_has ls 6 [(2, .int x104)] → W p l e { frames := 6, cells := 0, slots := 0, locals := 145 } s m args below meth c H locs 0 0 (MQ below (QW E a (some (.int out.1)) out.2) args s 0 0 (AE E)) (F0 m 103 ls []) := by
    intro x104 u105 H locs ls h hR hS hl
    replace h := jx2 hw106 h
    refine lv_iload_n hx hb dX8_fitting_103 rfl (lv_at hl 0 rfl) ?_
    cases h
    exact e_iret C hr hR hS (Nat.le_of_ble_eq_true rfl) (Nat.le_of_ble_eq_true rfl) dX8_fitting_104
  have LP : ∀ (fu : Nat) (x101 : Int32) (x102 : Int32) (u103 : HS) (H : Heap) (locs : List Loc) (ls : Array Slot), mX8_fitting_L4 x1 w106 fu x101 x102 u103 = some out → Rel E a u103 H → va_S (AE E) s.heap H locs → lv_has ls 6 [(0, .ref (a 8 0)), (1, .int x1), (2, .int x101), (3, .int x102)] → W p l e { frames := 6, cells := 0, slots := 0, locals := 145 } s m args below meth c H locs 0 0 (MQ below (QW E a (some (.int out.1)) out.2) args s 0 0 (AE E)) (F0 m 4 ls []) := by
    intro fu
    induction fu with
    | zero =>
      intro x101 x102 u103 H locs ls h
      have h2 : (none : Option (Int32 × HS)) = some out := h
      cases h2
    | succ fu ih =>
      intro x101 x102 u103 H locs ls h hR hS hl
      rw [mX8_fitting_L4.eq_2] at h
      refine lv_iload_n hx hb dX8_fitting_4 rfl (lv_at hl 3 rfl) ?_
      refine lv_aload_n hx hb dX8_fitting_5 rfl (lv_at hl 0 rfl) ?_
      refine r_get C hR 8 0 6 (v := .int (gI u103 8 0 6)) (lv0 (by decide) (by decide)) (by decide) (by decide) rfl fl_X8_41 dX8_fitting_6 ?_
      refine lv_icmp_ge (tgt := 103) hx hb dX8_fitting_9 (by decide) (fun c_107 => ?_) (fun c_107 => ?_)
      · rw [if_pos c_107] at h
        exact Kw106 _ _ _ _ _ h hR hS (lv_sub hl [2] rfl)
      · rw [if_neg c_107] at h
        refine lv_iconst (v := 0) hx hb dX8_fitting_12 (by decide) ?_
        refine lv_istore (lv' := [(4, .int 0), (0, .ref (a 8 0)), (1, .int x1), (2, .int x101), (3, .int x102)]) hx hb dX8_fitting_13 hl (by decide) rfl (fun ls hl => ?_)
        refine lv_iconst (v := 0) hx hb dX8_fitting_15 (by decide) ?_
        refine lv_istore (lv' := [(5, .int 0), (4, .int 0), (0, .ref (a 8 0)), (1, .int x1), (2, .int x101), (3, .int x102)]) hx hb dX8_fitting_16 hl (by decide) rfl (fun ls hl => ?_)
        refine jp_cut h (fun w113 hw113 h => ?_)
        have Kw113 : ∀ (x111 : Int32) (u112 : HS) (H : Heap) (locs : List Loc) (ls : Array Slot), w113 x111 u112 = some out → Rel E a u112 H → va_S (AE E) s.heap H locs → lv_has ls 6 [(0, .ref (a 8 0)), (1, .int x1), (2, .int x101), (3, .int x102), (4, .int x111)] → W p l e { frames := 6, cells := 0, slots := 0, locals := 145 } s m args below meth c H locs 0 0 (MQ below (QW E a (some (.int out.1)) out.2) args s 0 0 (AE E)) (F0 m 81 ls []) := by
          intro x111 u112 H locs ls h hR hS hl
          replace h := jx2 hw113 h
          refine lv_iload_n hx hb dX8_fitting_81 rfl (lv_at hl 2 rfl) ?_
          refine lv_iload hx hb dX8_fitting_82 (lv_at hl 4 rfl) ?_
          refine lv_iload_n hx hb dX8_fitting_84 rfl (lv_at hl 1 rfl) ?_
          obtain ⟨x114, hz, h⟩ := ob h
          have Kj115 : ∀ (H : Heap) (locs : List Loc) (ls : Array Slot), Rel E a u112 H → va_S (AE E) s.heap H locs → lv_has ls 6 [(0, .ref (a 8 0)), (1, .int x1), (3, .int x102)] → W p l e { frames := 6, cells := 0, slots := 0, locals := 145 } s m args below meth c H locs 0 0 (MQ below (QW E a (some (.int out.1)) out.2) args s 0 0 (AE E)) (F0 m 95 ls [.int x114, .int x101]) := by
            intro H locs ls hR hS hl
            clear hz
            refine lv_ior hx hb dX8_fitting_95 ?_
            refine lv_topi (fun x116 ex116 => ?_)
            replace h := bd_x ex116 h
            refine lv_istore_n (lv' := [(2, .int x116), (0, .ref (a 8 0)), (1, .int x1), (3, .int x102)]) hx hb dX8_fitting_96 rfl hl (by decide) rfl (fun ls hl => ?_)
            obtain ⟨x117, ex117⟩ : ∃ z : Int32, z = x102 + 1 := ⟨_, rfl⟩
            replace h := bd_x ex117 h
            refine lv_iinc (v := x117) (lv' := [(3, .int x117), (2, .int x116), (0, .ref (a 8 0)), (1, .int x1)]) hx hb dX8_fitting_97 hl (k := 3) rfl (by rw [ex117]; rfl) (by decide) rfl (fun ls hl => ?_)
            refine lv_goto (tgt := 4) hx hb dX8_fitting_100 (by decide) ?_
            exact ih _ _ _ _ _ _ h hR hS (lv_sub hl [2, 3, 1, 0] rfl)
          clear h
          have h := hz
          clear hz
          refine lv_icmp_gt (tgt := 94) hx hb dX8_fitting_85 (by decide) (fun c_118 => ?_) (fun c_118 => ?_)
          · rw [if_pos c_118] at h
            refine lv_iconst (v := 0) hx hb dX8_fitting_94 (by decide) ?_
            cases h
            exact Kj115 _ _ _ hR hS (lv_sub hl [0, 1, 3] rfl)
          · rw [if_neg c_118] at h
            refine lv_iconst (v := 1) hx hb dX8_fitting_88 (by decide) ?_
            refine lv_iload_n hx hb dX8_fitting_89 rfl (lv_at hl 3 rfl) ?_
            refine lv_ishl hx hb dX8_fitting_90 ?_
            refine lv_goto (tgt := 95) hx hb dX8_fitting_91 (by decide) ?_
            cases h
            exact Kj115 _ _ _ hR hS (lv_sub hl [0, 1, 3] rfl)
        have LP : ∀ (fu : Nat) (x108 : Int32) (x109 : Int32) (u110 : HS) (H : Heap) (locs : List Loc) (ls : Array Slot), mX8_fitting_L18 x102 w113 fu x108 x109 u110 = some out → Rel E a u110 H → va_S (AE E) s.heap H locs → lv_has ls 6 [(0, .ref (a 8 0)), (1, .int x1), (2, .int x101), (3, .int x102), (4, .int x108), (5, .int x109)] → W p l e { frames := 6, cells := 0, slots := 0, locals := 145 } s m args below meth c H locs 0 0 (MQ below (QW E a (some (.int out.1)) out.2) args s 0 0 (AE E)) (F0 m 18 ls []) := by
          intro fu
          induction fu with
          | zero =>
            intro x108 x109 u110 H locs ls h
            have h2 : (none : Option (Int32 × HS)) = some out := h
            cases h2
          | succ fu ih =>
            intro x108 x109 u110 H locs ls h hR hS hl
            rw [mX8_fitting_L18.eq_2] at h
            refine lv_iload hx hb dX8_fitting_18 (lv_at hl 5 rfl) ?_
            refine lv_aload_n hx hb dX8_fitting_20 rfl (lv_at hl 0 rfl) ?_
            refine r_get C hR 8 0 8 (v := .ref (a 0 0)) (lv0 (by decide) (by decide)) (by decide) (by decide) rfl fl_X8_56 dX8_fitting_21 ?_
            refine r_get C hR 0 0 0 (v := .int (gI u110 0 0 0)) (lv0 (by decide) (by decide)) (by decide) (by decide) rfl fl_X8_268 dX8_fitting_24 ?_
            refine lv_icmp_ge (tgt := 81) hx hb dX8_fitting_27 (by decide) (fun c_119 => ?_) (fun c_119 => ?_)
            · rw [if_pos c_119] at h
              exact Kw113 _ _ _ _ _ h hR hS (lv_sub hl [0, 1, 2, 3, 4] rfl)
            · rw [if_neg c_119] at h
              refine lv_aload_n hx hb dX8_fitting_30 rfl (lv_at hl 0 rfl) ?_
              refine lv_iload hx hb dX8_fitting_31 (lv_at hl 5 rfl) ?_
              obtain ⟨x121, hc120, h⟩ := ob h
              refine r_callV1 (As := [.int x109]) (rest := []) (r := 8) (i := 0) C (vX8_isHeard hc120) hR hS (lv0 (by decide) (by decide)) (by decide) ml_X8_404 mw_X8_isHeard rfl ⟨Nat.le_of_ble_eq_true rfl, Nat.le_of_ble_eq_true rfl, Nat.le_of_ble_eq_true rfl, Nat.le_of_ble_eq_true rfl⟩ hl.1 rfl (Nat.le_of_ble_eq_true rfl) dX8_fitting_33 (fun H locs hR hS => ?_)
              refine jp_cut h (fun j124 hj124 h => ?_)
              have Kj124 : ∀ (x122 : Int32) (u123 : HS) (H : Heap) (locs : List Loc) (ls : Array Slot), j124 x122 u123 = some out → Rel E a u123 H → va_S (AE E) s.heap H locs → lv_has ls 6 [(0, .ref (a 8 0)), (1, .int x1), (2, .int x101), (3, .int x102), (4, .int x122), (5, .int x109)] → W p l e { frames := 6, cells := 0, slots := 0, locals := 145 } s m args below meth c H locs 0 0 (MQ below (QW E a (some (.int out.1)) out.2) args s 0 0 (AE E)) (F0 m 75 ls []) := by
                intro x122 u123 H locs ls h hR hS hl
                replace h := jx2 hj124 h
                obtain ⟨x125, ex125⟩ : ∃ z : Int32, z = x109 + 1 := ⟨_, rfl⟩
                replace h := bd_x ex125 h
                refine lv_iinc (v := x125) (lv' := [(5, .int x125), (0, .ref (a 8 0)), (1, .int x1), (2, .int x101), (3, .int x102), (4, .int x122)]) hx hb dX8_fitting_75 hl (k := 5) rfl (by rw [ex125]; rfl) (by decide) rfl (fun ls hl => ?_)
                refine lv_goto (tgt := 18) hx hb dX8_fitting_78 (by decide) ?_
                exact ih _ _ _ _ _ _ h hR hS (lv_sub hl [1, 2, 3, 4, 5, 0] rfl)
              refine lv_if_eq (tgt := 75) hx hb dX8_fitting_36 (by decide) (fun c_126 => ?_) (fun c_126 => ?_)
              · rw [if_pos c_126] at h
                exact Kj124 _ _ _ _ _ h hR hS (lv_sub hl [0, 1, 2, 3, 4, 5] rfl)
              · rw [if_neg c_126] at h
                refine lv_aload_n hx hb dX8_fitting_39 rfl (lv_at hl 0 rfl) ?_
                refine lv_iload_n hx hb dX8_fitting_40 rfl (lv_at hl 3 rfl) ?_
                refine lv_iload hx hb dX8_fitting_41 (lv_at hl 5 rfl) ?_
                obtain ⟨⟨x128, u129⟩, hc127, h⟩ := ob h
                replace h := bd_x (x := x128) rfl h
                replace h := bd_x (x := u129) rfl h
                refine r_callV1 (As := [.int x102, .int x109]) (rest := []) (r := 8) (i := 0) C (vX8_stateOf hc127) hR hS (lv0 (by decide) (by decide)) (by decide) ml_X8_250 mw_X8_stateOf rfl ⟨Nat.le_of_ble_eq_true rfl, Nat.le_of_ble_eq_true rfl, Nat.le_of_ble_eq_true rfl, Nat.le_of_ble_eq_true rfl⟩ hl.1 rfl (Nat.le_of_ble_eq_true rfl) dX8_fitting_43 (fun H locs hR hS => ?_)
                refine lv_iconst (v := 0) hx hb dX8_fitting_46 (by decide) ?_
                obtain ⟨x131, hc130, h⟩ := ob h
                refine r_callS1 (As := [.int x128, .int 0]) (rest := []) C (vX8_isYes hc130) hR hS ml_X8_253 ms_X8_isYes rfl ⟨Nat.le_of_ble_eq_true rfl, Nat.le_of_ble_eq_true rfl, Nat.le_of_ble_eq_true rfl, Nat.le_of_ble_eq_true rfl⟩ hl.1 rfl (Nat.le_of_ble_eq_true rfl) dX8_fitting_47 (fun H locs hR hS => ?_)
                refine lv_aload_n hx hb dX8_fitting_50 rfl (lv_at hl 0 rfl) ?_
                refine r_get C hR 8 0 8 (v := .ref (a 0 0)) (lv0 (by decide) (by decide)) (by decide) (by decide) rfl fl_X8_56 dX8_fitting_51 ?_
                refine lv_iload hx hb dX8_fitting_54 (lv_at hl 5 rfl) ?_
                refine lv_iconst (v := 0) hx hb dX8_fitting_56 (by decide) ?_
                obtain ⟨x133, hc132, h⟩ := ob h
                refine r_callV1 (As := [.int x109, .int 0]) (rest := [.int x131]) (r := 0) (i := 0) C (vX0_reply (by decide) hc132) hR hS (lv0 (by decide) (by decide)) (by decide) ml_X8_277 mw_X0_reply rfl ⟨Nat.le_of_ble_eq_true rfl, Nat.le_of_ble_eq_true rfl, Nat.le_of_ble_eq_true rfl, Nat.le_of_ble_eq_true rfl⟩ hl.1 rfl (Nat.le_of_ble_eq_true rfl) dX8_fitting_57 (fun H locs hR hS => ?_)
                refine lv_iconst (v := 1) hx hb dX8_fitting_60 (by decide) ?_
                obtain ⟨x134, hz, h⟩ := ob h
                have Kj135 : ∀ (H : Heap) (locs : List Loc) (ls : Array Slot), Rel E a u129 H → va_S (AE E) s.heap H locs → lv_has ls 6 [(0, .ref (a 8 0)), (1, .int x1), (2, .int x101), (3, .int x102), (4, .int x108), (5, .int x109)] → W p l e { frames := 6, cells := 0, slots := 0, locals := 145 } s m args below meth c H locs 0 0 (MQ below (QW E a (some (.int out.1)) out.2) args s 0 0 (AE E)) (F0 m 69 ls [.int x134, .int x131]) := by
                  intro H locs ls hR hS hl
                  clear hz
                  refine lv_icmp_eq (tgt := 75) hx hb dX8_fitting_69 (by decide) (fun c_136 => ?_) (fun c_136 => ?_)
                  · rw [if_pos c_136] at h
                    exact Kj124 _ _ _ _ _ h hR hS (lv_sub hl [0, 1, 2, 3, 4, 5] rfl)
                  · rw [if_neg c_136] at h
                    obtain ⟨x137, ex137⟩ : ∃ z : Int32, z = x108 + 1 := ⟨_, rfl⟩
                    replace h := bd_x ex137 h
                    refine lv_iinc (v := x137) (lv' := [(4, .int x137), (0, .ref (a 8 0)), (1, .int x1), (2, .int x101), (3, .int x102), (5, .int x109)]) hx hb dX8_fitting_72 hl (k := 4) rfl (by rw [ex137]; rfl) (by decide) rfl (fun ls hl => ?_)
                    exact Kj124 _ _ _ _ _ h hR hS (lv_sub hl [1, 2, 3, 4, 0, 5] rfl)
                clear h
                have h := hz
                clear hz
                refine lv_icmp_ne (tgt := 68) hx hb dX8_fitting_61 (by decide) (fun c_138 => ?_) (fun c_138 => ?_)
                · rw [if_neg c_138] at h
                  refine lv_iconst (v := 0) hx hb dX8_fitting_68 (by decide) ?_
                  cases h
                  exact Kj135 _ _ _ hR hS (lv_sub hl [0, 1, 2, 3, 4, 5] rfl)
                · rw [if_pos c_138] at h
                  refine lv_iconst (v := 1) hx hb dX8_fitting_64 (by decide) ?_
                  refine lv_goto (tgt := 69) hx hb dX8_fitting_65 (by decide) ?_
                  cases h
                  exact Kj135 _ _ _ hR hS (lv_sub hl [0, 1, 2, 3, 4, 5] rfl)
        exact LP FU _ _ _ _ _ _ h hR hS (lv_sub hl [2, 3, 4, 5, 1, 0] rfl)
  exact LP FU _ _ _ _ _ _ h hR hS (lv_sub hl [2, 3, 1, 0] rfl)
